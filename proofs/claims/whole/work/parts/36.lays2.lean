/-! THE REFERENCE: least sizes of splits, sharing -/
theorem I64_32 {x : Int} (h : -2147483648 ≤ x ∧ x ≤ 2147483647) : (I32 x).toInt64 = I64 x := by
  have e1 : Int32.minValue.toInt = -2147483648 := by decide
  have e2 : Int32.maxValue.toInt = 2147483647 := by decide
  exact Int32.toInt64_ofInt (by omega) (by omega)
theorem I64_add (x y : Int) : I64 x + I64 y = I64 (x + y) := (Int64.ofInt_add x y).symm
theorem I64_div {x y : Int} (hx : 0 ≤ x ∧ x ≤ 4000000000000) (hy : 0 < y ∧ y ≤ 4000000000000) : I64 x / I64 y = I64 (x / y) := by
  have e1 : Int64.minValue.toInt = -9223372036854775808 := by decide
  have e2 : Int64.maxValue.toInt = 9223372036854775807 := by decide
  have h := Int64.ofInt_tdiv (a := x) (b := y) (by omega) (by omega) (by omega) (by omega)
  rw [Int.tdiv_eq_ediv_of_nonneg hx.1] at h
  exact h.symm
theorem I64_to {x : Int} : (I64 x).toInt32 = I32 x := Int64.toInt32_ofInt
theorem I64_ne {y : Int} (hy : 0 < y ∧ y ≤ 4000000000000) : ¬ I64 y = 0 := by
  intro h
  have h2 : (I64 y).toInt = y := Int64.toInt_ofInt_of_le (by omega) (by omega)
  rw [h] at h2
  have : (0 : Int64).toInt = 0 := by decide
  omega
theorem prt_eq {a w s : Int} (ha : 0 ≤ a ∧ a ≤ 100000) (hw : 0 ≤ w ∧ w ≤ 1000000) (hs : 0 < s ∧ s ≤ 4000000000000) : ((I32 a).toInt64 * (I32 w).toInt64 / I64 s).toInt32 = I32 (a * w / s) := by
  rw [I64_32 (by omega), I64_32 (by omega), show I64 a * I64 w = I64 (a * w) from (Int64.ofInt_mul a w).symm, I64_div ?_ hs, I64_to]
  have h1 : 0 ≤ a * w := Int.mul_nonneg ha.1 hw.1
  have h2 : a * w ≤ 100000 * 1000000 := Int.mul_le_mul ha.2 hw.2 hw.1 (by decide)
  omega
def ltF (T Z : Mem) (s c : Int) : Int := if T 0 s = 2 then Z 7 c else Z 8 c
def exF (T Z : Mem) (s c : Int) : Int := if T 0 s = 2 then Z 11 c else Z 12 c
def lsZ (T Z : Mem) (x : Int) : Mem :=
  up (up Z 7 x (wr (if T 0 x = 2 then smG (fun k => Z 7 (chT T x k)) (kdT T x).toNat + kdT T x - 1 else mmG (fun k => Z 7 (chT T x k)) (kdT T x).toNat))) 8 x
    (wr (if T 0 x = 2 then mmG (fun k => Z 8 (chT T x k)) (kdT T x).toNat else smG (fun k => Z 8 (chT T x k)) (kdT T x).toNat + kdT T x - 1))
theorem ltF_R {T Z : Mem} (h : R32Z Z) (s c : Int) : -2147483648 ≤ ltF T Z s c ∧ ltF T Z s c ≤ 2147483647 := by
  unfold ltF; split
  · exact h 7 c (by decide)
  · exact h 8 c (by decide)
section M7
variable {G : Gx} {l : Launch} {S : Sh} {n : Nat} {mu T Z : Mem} {la : Lam} {r : Nat}
set_option maxRecDepth 20000 in
theorem ggX9_least_X9_of : GoodIn wsX9_least wsX9_of := goodIn_r _ [7, 8, 9, 10, 11, 12, 13, 14, 15, 16, 17, 18, 19, 20, 21, 22, 23, 24, 25, 26, 27, 28, 29, 30, 31, 32] (by decide +kernel) (by decide +kernel)
set_option maxRecDepth 20000 in
theorem gX9_least_X9_of : GoodIn wsX9_least (wsV RX9 77 RX9 yX9_of wsX9_of) := goodIn_app (goodIn_of _ (by decide +kernel)) ggX9_least_X9_of
theorem dX9_least_0 : decode cX9_least 0 = .ok (.aload_n 0, 1) := by decide +kernel
theorem dX9_least_1 : decode cX9_least 1 = .ok (.iload_n 1, 1) := by decide +kernel
theorem dX9_least_2 : decode cX9_least 2 = .ok (.iconst 0, 1) := by decide +kernel
theorem dX9_least_3 : decode cX9_least 3 = .ok (.invokevirtual 77, 3) := by decide +kernel
theorem dX9_least_6 : decode cX9_least 6 = .ok (.iconst 2, 1) := by decide +kernel
theorem dX9_least_7 : decode cX9_least 7 = .ok (.if_icmp .ne 12, 3) := by decide +kernel
theorem dX9_least_10 : decode cX9_least 10 = .ok (.aload_n 0, 1) := by decide +kernel
theorem dX9_least_11 : decode cX9_least 11 = .ok (.getfield 28, 3) := by decide +kernel
theorem dX9_least_14 : decode cX9_least 14 = .ok (.iload_n 2, 1) := by decide +kernel
theorem dX9_least_15 : decode cX9_least 15 = .ok (.iaload, 1) := by decide +kernel
theorem dX9_least_16 : decode cX9_least 16 = .ok (.goto 9, 3) := by decide +kernel
theorem dX9_least_19 : decode cX9_least 19 = .ok (.aload_n 0, 1) := by decide +kernel
theorem dX9_least_20 : decode cX9_least 20 = .ok (.getfield 31, 3) := by decide +kernel
theorem dX9_least_23 : decode cX9_least 23 = .ok (.iload_n 2, 1) := by decide +kernel
theorem dX9_least_24 : decode cX9_least 24 = .ok (.iaload, 1) := by decide +kernel
theorem dX9_least_25 : decode cX9_least 25 = .ok (.ireturn, 1) := by decide +kernel
theorem hin_X9_least_X9 : ∀ w ∈ wsX90, w ∈ wsX9_least := by decide +kernel
theorem lk_X9_least_28 : Cond.fieldLink RX9 28 RX9 "leastW" "[I" ∈ wsX9_least := by decide +kernel
theorem lk_X9_least_31 : Cond.fieldLink RX9 31 RX9 "leastH" "[I" ∈ wsX9_least := by decide +kernel
theorem m_least (hG : GP G) (hM : MoS S r) {N : Int} (hB : TB N T) (hN : N ≤ 1073740000) {q x y : Int} (hx : 0 ≤ x ∧ x < 32) (hy : 0 ≤ y ∧ y < 32) : Ct G l yX9_least wsX9_least 1 0 0 [.ref r, .int (I32 x), .int (I32 y)] S n (lyM mu r T q Z) la (Dt (some (.int (I32 (ltF T Z x y)))) S n (lyM mu r T q Z) la) := by
  have o9 := hM.1
  have b0 := hB.n 0 (by decide) hx
  refine Ct.ofV (cc := cX9_least) (nL := 3) (ret := (some .int)) [some (.ref r), some (.int (I32 x)), some (.int (I32 y))] hG (by decide) rfl (Nat.le_of_ble_eq_true rfl) rfl ?_
  rintro X rfl rfl C hcl hsl E
  refine V_aload_n C dX9_least_0 rfl ?_
  refine V_iload_n C dX9_least_1 rfl ?_
  refine V_iconst C dX9_least_2 ?_
  refine V_callVD (nA := 2) C dX9_least_3 (m_of C.gp hM hx 0 (by decide) rfl) gX9_least_X9_of rfl o9 rfl (by decide +kernel) rfl (by decide) (by decide) (Nat.le_of_ble_eq_true rfl) ⟨by omega, by omega⟩ rfl ?_
  refine V_iconst C dX9_least_6 ?_
  refine V_icmp_ne C 19 dX9_least_7 (by decide) (by omega) (by omega) (fun z7 => ?_) (fun z7 => ?_)
  · refine V_aload_n C dX9_least_19 rfl ?_
    refine V_getR C 11 dX9_least_20 o9 rfl hin_X9_least_X9 (by decide) lk_X9_least_31 rfl rfl ?_
    refine V_iload_n C dX9_least_23 rfl ?_
    refine V_ialdJ C dX9_least_24 (hM.k ⟨by decide,by decide⟩) (by first | assumption | decide) (by omega) (zM_k (by decide)) ?_
    refine V_ireturn C E dX9_least_25 (by omega) (by omega) ?_
    exact Dt_int (by unfold ltF; (repeat' split) <;> first | rfl | omega)
  · refine V_aload_n C dX9_least_10 rfl ?_
    refine V_getR C 10 dX9_least_11 o9 rfl hin_X9_least_X9 (by decide) lk_X9_least_28 rfl rfl ?_
    refine V_iload_n C dX9_least_14 rfl ?_
    refine V_ialdJ C dX9_least_15 (hM.k ⟨by decide,by decide⟩) (by first | assumption | decide) (by omega) (zM_k (by decide)) ?_
    refine V_goto C 25 dX9_least_16 (by decide) ?_
    refine V_ireturn C E dX9_least_25 (by omega) (by omega) ?_
    exact Dt_int (by unfold ltF; (repeat' split) <;> first | rfl | omega)
set_option maxRecDepth 20000 in
theorem ggX9_extent_X9_of : GoodIn wsX9_extent wsX9_of := goodIn_r _ [7, 8, 9, 10, 11, 12, 13, 14, 15, 16, 17, 18, 19, 20, 21, 22, 23, 24, 25, 26, 27, 28, 29, 30, 31, 32] (by decide +kernel) (by decide +kernel)
set_option maxRecDepth 20000 in
theorem gX9_extent_X9_of : GoodIn wsX9_extent (wsV RX9 77 RX9 yX9_of wsX9_of) := goodIn_app (goodIn_of _ (by decide +kernel)) ggX9_extent_X9_of
theorem dX9_extent_0 : decode cX9_extent 0 = .ok (.aload_n 0, 1) := by decide +kernel
theorem dX9_extent_1 : decode cX9_extent 1 = .ok (.iload_n 1, 1) := by decide +kernel
theorem dX9_extent_2 : decode cX9_extent 2 = .ok (.iconst 0, 1) := by decide +kernel
theorem dX9_extent_3 : decode cX9_extent 3 = .ok (.invokevirtual 77, 3) := by decide +kernel
theorem dX9_extent_6 : decode cX9_extent 6 = .ok (.iconst 2, 1) := by decide +kernel
theorem dX9_extent_7 : decode cX9_extent 7 = .ok (.if_icmp .ne 12, 3) := by decide +kernel
theorem dX9_extent_10 : decode cX9_extent 10 = .ok (.aload_n 0, 1) := by decide +kernel
theorem dX9_extent_11 : decode cX9_extent 11 = .ok (.getfield 40, 3) := by decide +kernel
theorem dX9_extent_14 : decode cX9_extent 14 = .ok (.iload_n 2, 1) := by decide +kernel
theorem dX9_extent_15 : decode cX9_extent 15 = .ok (.iaload, 1) := by decide +kernel
theorem dX9_extent_16 : decode cX9_extent 16 = .ok (.goto 9, 3) := by decide +kernel
theorem dX9_extent_19 : decode cX9_extent 19 = .ok (.aload_n 0, 1) := by decide +kernel
theorem dX9_extent_20 : decode cX9_extent 20 = .ok (.getfield 43, 3) := by decide +kernel
theorem dX9_extent_23 : decode cX9_extent 23 = .ok (.iload_n 2, 1) := by decide +kernel
theorem dX9_extent_24 : decode cX9_extent 24 = .ok (.iaload, 1) := by decide +kernel
theorem dX9_extent_25 : decode cX9_extent 25 = .ok (.ireturn, 1) := by decide +kernel
theorem hin_X9_extent_X9 : ∀ w ∈ wsX90, w ∈ wsX9_extent := by decide +kernel
theorem lk_X9_extent_40 : Cond.fieldLink RX9 40 RX9 "boxW" "[I" ∈ wsX9_extent := by decide +kernel
theorem lk_X9_extent_43 : Cond.fieldLink RX9 43 RX9 "boxH" "[I" ∈ wsX9_extent := by decide +kernel
theorem m_extent (hG : GP G) (hM : MoS S r) {N : Int} (hB : TB N T) (hN : N ≤ 1073740000) {q x y : Int} (hx : 0 ≤ x ∧ x < 32) (hy : 0 ≤ y ∧ y < 32) : Ct G l yX9_extent wsX9_extent 1 0 0 [.ref r, .int (I32 x), .int (I32 y)] S n (lyM mu r T q Z) la (Dt (some (.int (I32 (exF T Z x y)))) S n (lyM mu r T q Z) la) := by
  have o9 := hM.1
  have b0 := hB.n 0 (by decide) hx
  refine Ct.ofV (cc := cX9_extent) (nL := 3) (ret := (some .int)) [some (.ref r), some (.int (I32 x)), some (.int (I32 y))] hG (by decide) rfl (Nat.le_of_ble_eq_true rfl) rfl ?_
  rintro X rfl rfl C hcl hsl E
  refine V_aload_n C dX9_extent_0 rfl ?_
  refine V_iload_n C dX9_extent_1 rfl ?_
  refine V_iconst C dX9_extent_2 ?_
  refine V_callVD (nA := 2) C dX9_extent_3 (m_of C.gp hM hx 0 (by decide) rfl) gX9_extent_X9_of rfl o9 rfl (by decide +kernel) rfl (by decide) (by decide) (Nat.le_of_ble_eq_true rfl) ⟨by omega, by omega⟩ rfl ?_
  refine V_iconst C dX9_extent_6 ?_
  refine V_icmp_ne C 19 dX9_extent_7 (by decide) (by omega) (by omega) (fun z7 => ?_) (fun z7 => ?_)
  · refine V_aload_n C dX9_extent_19 rfl ?_
    refine V_getR C 15 dX9_extent_20 o9 rfl hin_X9_extent_X9 (by decide) lk_X9_extent_43 rfl rfl ?_
    refine V_iload_n C dX9_extent_23 rfl ?_
    refine V_ialdJ C dX9_extent_24 (hM.k ⟨by decide,by decide⟩) (by first | assumption | decide) (by omega) (zM_k (by decide)) ?_
    refine V_ireturn C E dX9_extent_25 (by omega) (by omega) ?_
    exact Dt_int (by unfold exF; (repeat' split) <;> first | rfl | omega)
  · refine V_aload_n C dX9_extent_10 rfl ?_
    refine V_getR C 14 dX9_extent_11 o9 rfl hin_X9_extent_X9 (by decide) lk_X9_extent_40 rfl rfl ?_
    refine V_iload_n C dX9_extent_14 rfl ?_
    refine V_ialdJ C dX9_extent_15 (hM.k ⟨by decide,by decide⟩) (by first | assumption | decide) (by omega) (zM_k (by decide)) ?_
    refine V_goto C 25 dX9_extent_16 (by decide) ?_
    refine V_ireturn C E dX9_extent_25 (by omega) (by omega) ?_
    exact Dt_int (by unfold exF; (repeat' split) <;> first | rfl | omega)
set_option maxRecDepth 20000 in
theorem ggX9_leastOfSplit_X9_children : GoodIn wsX9_leastOfSplit wsX9_children := goodIn_r _ [7, 8, 9, 10, 6, 11, 12, 13, 14, 15, 20, 21, 22, 23, 24, 25, 26, 27, 28, 29, 30, 31, 32, 33, 34, 35, 36, 37, 38, 39, 40, 41, 42, 43] (by decide +kernel) (by decide +kernel)
set_option maxRecDepth 20000 in
theorem gX9_leastOfSplit_X9_children : GoodIn wsX9_leastOfSplit (wsV RX9 102 RX9 yX9_children wsX9_children) := goodIn_app (goodIn_of _ (by decide +kernel)) ggX9_leastOfSplit_X9_children
set_option maxRecDepth 20000 in
theorem ggX9_leastOfSplit_X9_child : GoodIn wsX9_leastOfSplit wsX9_child := goodIn_r _ [19, 8, 9, 10, 6, 11, 12, 13, 14, 15, 20, 21, 22, 23, 24, 25, 26, 27, 28, 29, 30, 31, 32, 33, 34, 35, 36, 37, 38, 39, 40, 41, 42, 43] (by decide +kernel) (by decide +kernel)
set_option maxRecDepth 20000 in
theorem gX9_leastOfSplit_X9_child : GoodIn wsX9_leastOfSplit (wsV RX9 105 RX9 yX9_child wsX9_child) := goodIn_app (goodIn_of _ (by decide +kernel)) ggX9_leastOfSplit_X9_child
set_option maxRecDepth 20000 in
theorem ggX9_leastOfSplit_X9_of : GoodIn wsX9_leastOfSplit wsX9_of := goodIn_r _ [11, 12, 20, 21, 22, 23, 24, 25, 26, 27, 28, 29, 30, 31, 32, 33, 34, 35, 36, 37, 38, 39, 40, 41, 42, 43] (by decide +kernel) (by decide +kernel)
set_option maxRecDepth 20000 in
theorem gX9_leastOfSplit_X9_of : GoodIn wsX9_leastOfSplit (wsV RX9 77 RX9 yX9_of wsX9_of) := goodIn_app (goodIn_of _ (by decide +kernel)) ggX9_leastOfSplit_X9_of
theorem dX9_leastOfSplit_0 : decode cX9_leastOfSplit 0 = .ok (.iconst 0, 1) := by decide +kernel
theorem dX9_leastOfSplit_1 : decode cX9_leastOfSplit 1 = .ok (.istore_n 2, 1) := by decide +kernel
theorem dX9_leastOfSplit_2 : decode cX9_leastOfSplit 2 = .ok (.iconst 0, 1) := by decide +kernel
theorem dX9_leastOfSplit_3 : decode cX9_leastOfSplit 3 = .ok (.istore_n 3, 1) := by decide +kernel
theorem dX9_leastOfSplit_4 : decode cX9_leastOfSplit 4 = .ok (.iconst 0, 1) := by decide +kernel
theorem dX9_leastOfSplit_5 : decode cX9_leastOfSplit 5 = .ok (.istore 4, 2) := by decide +kernel
theorem dX9_leastOfSplit_7 : decode cX9_leastOfSplit 7 = .ok (.iconst 0, 1) := by decide +kernel
theorem dX9_leastOfSplit_8 : decode cX9_leastOfSplit 8 = .ok (.istore 5, 2) := by decide +kernel
theorem dX9_leastOfSplit_10 : decode cX9_leastOfSplit 10 = .ok (.aload_n 0, 1) := by decide +kernel
theorem dX9_leastOfSplit_11 : decode cX9_leastOfSplit 11 = .ok (.iload_n 1, 1) := by decide +kernel
theorem dX9_leastOfSplit_12 : decode cX9_leastOfSplit 12 = .ok (.invokevirtual 102, 3) := by decide +kernel
theorem dX9_leastOfSplit_15 : decode cX9_leastOfSplit 15 = .ok (.istore 6, 2) := by decide +kernel
theorem dX9_leastOfSplit_17 : decode cX9_leastOfSplit 17 = .ok (.iconst 0, 1) := by decide +kernel
theorem dX9_leastOfSplit_18 : decode cX9_leastOfSplit 18 = .ok (.istore 7, 2) := by decide +kernel
theorem dX9_leastOfSplit_20 : decode cX9_leastOfSplit 20 = .ok (.iload 7, 2) := by decide +kernel
theorem dX9_leastOfSplit_22 : decode cX9_leastOfSplit 22 = .ok (.iload 6, 2) := by decide +kernel
theorem dX9_leastOfSplit_24 : decode cX9_leastOfSplit 24 = .ok (.if_icmp .ge 90, 3) := by decide +kernel
theorem dX9_leastOfSplit_27 : decode cX9_leastOfSplit 27 = .ok (.aload_n 0, 1) := by decide +kernel
theorem dX9_leastOfSplit_28 : decode cX9_leastOfSplit 28 = .ok (.iload_n 1, 1) := by decide +kernel
theorem dX9_leastOfSplit_29 : decode cX9_leastOfSplit 29 = .ok (.iload 7, 2) := by decide +kernel
theorem dX9_leastOfSplit_31 : decode cX9_leastOfSplit 31 = .ok (.invokevirtual 105, 3) := by decide +kernel
theorem dX9_leastOfSplit_34 : decode cX9_leastOfSplit 34 = .ok (.istore 8, 2) := by decide +kernel
theorem dX9_leastOfSplit_36 : decode cX9_leastOfSplit 36 = .ok (.iload_n 2, 1) := by decide +kernel
theorem dX9_leastOfSplit_37 : decode cX9_leastOfSplit 37 = .ok (.aload_n 0, 1) := by decide +kernel
theorem dX9_leastOfSplit_38 : decode cX9_leastOfSplit 38 = .ok (.getfield 28, 3) := by decide +kernel
theorem dX9_leastOfSplit_41 : decode cX9_leastOfSplit 41 = .ok (.iload 8, 2) := by decide +kernel
theorem dX9_leastOfSplit_43 : decode cX9_leastOfSplit 43 = .ok (.iaload, 1) := by decide +kernel
theorem dX9_leastOfSplit_44 : decode cX9_leastOfSplit 44 = .ok (.iadd, 1) := by decide +kernel
theorem dX9_leastOfSplit_45 : decode cX9_leastOfSplit 45 = .ok (.istore_n 2, 1) := by decide +kernel
theorem dX9_leastOfSplit_46 : decode cX9_leastOfSplit 46 = .ok (.iload_n 3, 1) := by decide +kernel
theorem dX9_leastOfSplit_47 : decode cX9_leastOfSplit 47 = .ok (.aload_n 0, 1) := by decide +kernel
theorem dX9_leastOfSplit_48 : decode cX9_leastOfSplit 48 = .ok (.getfield 31, 3) := by decide +kernel
theorem dX9_leastOfSplit_51 : decode cX9_leastOfSplit 51 = .ok (.iload 8, 2) := by decide +kernel
theorem dX9_leastOfSplit_53 : decode cX9_leastOfSplit 53 = .ok (.iaload, 1) := by decide +kernel
theorem dX9_leastOfSplit_54 : decode cX9_leastOfSplit 54 = .ok (.iadd, 1) := by decide +kernel
theorem dX9_leastOfSplit_55 : decode cX9_leastOfSplit 55 = .ok (.istore_n 3, 1) := by decide +kernel
theorem dX9_leastOfSplit_56 : decode cX9_leastOfSplit 56 = .ok (.aload_n 0, 1) := by decide +kernel
theorem dX9_leastOfSplit_57 : decode cX9_leastOfSplit 57 = .ok (.getfield 28, 3) := by decide +kernel
theorem dX9_leastOfSplit_60 : decode cX9_leastOfSplit 60 = .ok (.iload 8, 2) := by decide +kernel
theorem dX9_leastOfSplit_62 : decode cX9_leastOfSplit 62 = .ok (.iaload, 1) := by decide +kernel
theorem dX9_leastOfSplit_63 : decode cX9_leastOfSplit 63 = .ok (.iload 4, 2) := by decide +kernel
theorem dX9_leastOfSplit_65 : decode cX9_leastOfSplit 65 = .ok (.if_icmp .le 13, 3) := by decide +kernel
theorem dX9_leastOfSplit_68 : decode cX9_leastOfSplit 68 = .ok (.aload_n 0, 1) := by decide +kernel
theorem dX9_leastOfSplit_69 : decode cX9_leastOfSplit 69 = .ok (.getfield 28, 3) := by decide +kernel
theorem dX9_leastOfSplit_72 : decode cX9_leastOfSplit 72 = .ok (.iload 8, 2) := by decide +kernel
theorem dX9_leastOfSplit_74 : decode cX9_leastOfSplit 74 = .ok (.iaload, 1) := by decide +kernel
theorem dX9_leastOfSplit_75 : decode cX9_leastOfSplit 75 = .ok (.goto 5, 3) := by decide +kernel
theorem dX9_leastOfSplit_78 : decode cX9_leastOfSplit 78 = .ok (.iload 4, 2) := by decide +kernel
theorem dX9_leastOfSplit_80 : decode cX9_leastOfSplit 80 = .ok (.istore 4, 2) := by decide +kernel
theorem dX9_leastOfSplit_82 : decode cX9_leastOfSplit 82 = .ok (.aload_n 0, 1) := by decide +kernel
theorem dX9_leastOfSplit_83 : decode cX9_leastOfSplit 83 = .ok (.getfield 31, 3) := by decide +kernel
theorem dX9_leastOfSplit_86 : decode cX9_leastOfSplit 86 = .ok (.iload 8, 2) := by decide +kernel
theorem dX9_leastOfSplit_88 : decode cX9_leastOfSplit 88 = .ok (.iaload, 1) := by decide +kernel
theorem dX9_leastOfSplit_89 : decode cX9_leastOfSplit 89 = .ok (.iload 5, 2) := by decide +kernel
theorem dX9_leastOfSplit_91 : decode cX9_leastOfSplit 91 = .ok (.if_icmp .le 13, 3) := by decide +kernel
theorem dX9_leastOfSplit_94 : decode cX9_leastOfSplit 94 = .ok (.aload_n 0, 1) := by decide +kernel
theorem dX9_leastOfSplit_95 : decode cX9_leastOfSplit 95 = .ok (.getfield 31, 3) := by decide +kernel
theorem dX9_leastOfSplit_98 : decode cX9_leastOfSplit 98 = .ok (.iload 8, 2) := by decide +kernel
theorem dX9_leastOfSplit_100 : decode cX9_leastOfSplit 100 = .ok (.iaload, 1) := by decide +kernel
theorem dX9_leastOfSplit_101 : decode cX9_leastOfSplit 101 = .ok (.goto 5, 3) := by decide +kernel
theorem dX9_leastOfSplit_104 : decode cX9_leastOfSplit 104 = .ok (.iload 5, 2) := by decide +kernel
theorem dX9_leastOfSplit_106 : decode cX9_leastOfSplit 106 = .ok (.istore 5, 2) := by decide +kernel
theorem dX9_leastOfSplit_108 : decode cX9_leastOfSplit 108 = .ok (.iinc 7 1, 3) := by decide +kernel
theorem dX9_leastOfSplit_111 : decode cX9_leastOfSplit 111 = .ok (.goto (-91), 3) := by decide +kernel
theorem dX9_leastOfSplit_114 : decode cX9_leastOfSplit 114 = .ok (.aload_n 0, 1) := by decide +kernel
theorem dX9_leastOfSplit_115 : decode cX9_leastOfSplit 115 = .ok (.iload_n 1, 1) := by decide +kernel
theorem dX9_leastOfSplit_116 : decode cX9_leastOfSplit 116 = .ok (.iconst 0, 1) := by decide +kernel
theorem dX9_leastOfSplit_117 : decode cX9_leastOfSplit 117 = .ok (.invokevirtual 77, 3) := by decide +kernel
theorem dX9_leastOfSplit_120 : decode cX9_leastOfSplit 120 = .ok (.iconst 2, 1) := by decide +kernel
theorem dX9_leastOfSplit_121 : decode cX9_leastOfSplit 121 = .ok (.if_icmp .ne 7, 3) := by decide +kernel
theorem dX9_leastOfSplit_124 : decode cX9_leastOfSplit 124 = .ok (.iconst 1, 1) := by decide +kernel
theorem dX9_leastOfSplit_125 : decode cX9_leastOfSplit 125 = .ok (.goto 4, 3) := by decide +kernel
theorem dX9_leastOfSplit_128 : decode cX9_leastOfSplit 128 = .ok (.iconst 0, 1) := by decide +kernel
theorem dX9_leastOfSplit_129 : decode cX9_leastOfSplit 129 = .ok (.istore 7, 2) := by decide +kernel
theorem dX9_leastOfSplit_131 : decode cX9_leastOfSplit 131 = .ok (.aload_n 0, 1) := by decide +kernel
theorem dX9_leastOfSplit_132 : decode cX9_leastOfSplit 132 = .ok (.getfield 28, 3) := by decide +kernel
theorem dX9_leastOfSplit_135 : decode cX9_leastOfSplit 135 = .ok (.iload_n 1, 1) := by decide +kernel
theorem dX9_leastOfSplit_136 : decode cX9_leastOfSplit 136 = .ok (.iload 7, 2) := by decide +kernel
theorem dX9_leastOfSplit_138 : decode cX9_leastOfSplit 138 = .ok (.ifCond .eq 12, 3) := by decide +kernel
theorem dX9_leastOfSplit_141 : decode cX9_leastOfSplit 141 = .ok (.iload_n 2, 1) := by decide +kernel
theorem dX9_leastOfSplit_142 : decode cX9_leastOfSplit 142 = .ok (.iload 6, 2) := by decide +kernel
theorem dX9_leastOfSplit_144 : decode cX9_leastOfSplit 144 = .ok (.iadd, 1) := by decide +kernel
theorem dX9_leastOfSplit_145 : decode cX9_leastOfSplit 145 = .ok (.iconst 1, 1) := by decide +kernel
theorem dX9_leastOfSplit_146 : decode cX9_leastOfSplit 146 = .ok (.isub, 1) := by decide +kernel
theorem dX9_leastOfSplit_147 : decode cX9_leastOfSplit 147 = .ok (.goto 5, 3) := by decide +kernel
theorem dX9_leastOfSplit_150 : decode cX9_leastOfSplit 150 = .ok (.iload 4, 2) := by decide +kernel
theorem dX9_leastOfSplit_152 : decode cX9_leastOfSplit 152 = .ok (.iastore, 1) := by decide +kernel
theorem dX9_leastOfSplit_153 : decode cX9_leastOfSplit 153 = .ok (.aload_n 0, 1) := by decide +kernel
theorem dX9_leastOfSplit_154 : decode cX9_leastOfSplit 154 = .ok (.getfield 31, 3) := by decide +kernel
theorem dX9_leastOfSplit_157 : decode cX9_leastOfSplit 157 = .ok (.iload_n 1, 1) := by decide +kernel
theorem dX9_leastOfSplit_158 : decode cX9_leastOfSplit 158 = .ok (.iload 7, 2) := by decide +kernel
theorem dX9_leastOfSplit_160 : decode cX9_leastOfSplit 160 = .ok (.ifCond .eq 8, 3) := by decide +kernel
theorem dX9_leastOfSplit_163 : decode cX9_leastOfSplit 163 = .ok (.iload 5, 2) := by decide +kernel
theorem dX9_leastOfSplit_165 : decode cX9_leastOfSplit 165 = .ok (.goto 9, 3) := by decide +kernel
theorem dX9_leastOfSplit_168 : decode cX9_leastOfSplit 168 = .ok (.iload_n 3, 1) := by decide +kernel
theorem dX9_leastOfSplit_169 : decode cX9_leastOfSplit 169 = .ok (.iload 6, 2) := by decide +kernel
theorem dX9_leastOfSplit_171 : decode cX9_leastOfSplit 171 = .ok (.iadd, 1) := by decide +kernel
theorem dX9_leastOfSplit_172 : decode cX9_leastOfSplit 172 = .ok (.iconst 1, 1) := by decide +kernel
theorem dX9_leastOfSplit_173 : decode cX9_leastOfSplit 173 = .ok (.isub, 1) := by decide +kernel
theorem dX9_leastOfSplit_174 : decode cX9_leastOfSplit 174 = .ok (.iastore, 1) := by decide +kernel
theorem dX9_leastOfSplit_175 : decode cX9_leastOfSplit 175 = .ok (.return_, 1) := by decide +kernel
theorem hin_X9_leastOfSplit_X9 : ∀ w ∈ wsX90, w ∈ wsX9_leastOfSplit := by decide +kernel
theorem lk_X9_leastOfSplit_28 : Cond.fieldLink RX9 28 RX9 "leastW" "[I" ∈ wsX9_leastOfSplit := by decide +kernel
theorem lk_X9_leastOfSplit_31 : Cond.fieldLink RX9 31 RX9 "leastH" "[I" ∈ wsX9_leastOfSplit := by decide +kernel
theorem m_leastOfSplit (hG : GP G) (hM : MoS S r) {N : Int} (hB : TB N T) (hN : N ≤ 1073740000) (hR : R32Z Z) {q x : Int} (hx : 0 ≤ x ∧ x < 32) (hk : kdT T x ≤ 16 ∧ ∀ k, 0 ≤ k ∧ k < kdT T x → 0 ≤ chT T x k) : Ct G l yX9_leastOfSplit wsX9_leastOfSplit 2 0 0 [.ref r, .int (I32 x)] S n (lyM mu r T q Z) la (Dt none S n (lyM mu r T q (lsZ T Z x)) la) := by
  have o9 := hM.1
  have b0 := hB.n 0 (by decide) hx
  have bk := kdT_b T x
  unfold lsZ
  have cb : ∀ k, chT T x k < 32 := fun k => (chT_b T x k).2
  have r7 := fun (m : Nat) => mmG_R (f := fun k => Z 7 (chT T x k)) m (fun i _ => hR 7 _ (by decide))
  have r8 := fun (m : Nat) => mmG_R (f := fun k => Z 8 (chT T x k)) m (fun i _ => hR 8 _ (by decide))
  generalize ec : chT T x = cc at hk cb r7 r8
  generalize eK : kdT T x = K at hk bk
  refine Ct.ofV (cc := cX9_leastOfSplit) (nL := 9) (ret := none) [some (.ref r), some (.int (I32 x)), none, none, none, none, none, none, none] hG (by decide) rfl (Nat.le_of_ble_eq_true rfl) rfl ?_
  rintro X rfl rfl C hcl hsl E
  have last : ∀ (s7 s8 m7 m8 : Int) (w7 w8 : Option Value), s7 = smG (fun k => Z 7 (cc k)) K.toNat → s8 = smG (fun k => Z 8 (cc k)) K.toNat → m7 = mmG (fun k => Z 7 (cc k)) K.toNat → m8 = mmG (fun k => Z 8 (cc k)) K.toNat → V X 114 [some (.ref r), some (.int (I32 x)), some (.int (I32 s7)), some (.int (I32 s8)), some (.int (I32 m7)), some (.int (I32 m8)), some (.int (I32 K)), w7, w8] [] S n (lyM mu r T q Z) la 0 0 := by
    intro s7 s8 m7 m8 w7 w8 e1 e2 e3 e4
    rw [← e1, ← e2, ← e3, ← e4] at E
    refine V_aload_n C dX9_leastOfSplit_114 rfl ?_
    refine V_iload_n C dX9_leastOfSplit_115 rfl ?_
    refine V_iconst C dX9_leastOfSplit_116 ?_
    refine V_callVD (nA := 2) C dX9_leastOfSplit_117 (m_of C.gp hM hx 0 (by decide) rfl) gX9_leastOfSplit_X9_of rfl o9 rfl (by decide +kernel) rfl (by decide) (by decide) (Nat.le_of_ble_eq_true rfl) ⟨by omega, by omega⟩ rfl ?_
    refine V_iconst C dX9_leastOfSplit_120 ?_
    refine V_icmp_ne C 128 dX9_leastOfSplit_121 (by decide) (by omega) (by omega) (fun z121 => ?_) (fun z121 => ?_)
    · rw [if_neg (by assumption), if_neg (by assumption)] at E
      refine V_iconst C dX9_leastOfSplit_128 ?_
      refine V_istore C dX9_leastOfSplit_129 rfl (by decide) ?_
      refine V_aload_n C dX9_leastOfSplit_131 rfl ?_
      refine V_getR C 10 dX9_leastOfSplit_132 o9 rfl hin_X9_leastOfSplit_X9 (by decide) lk_X9_leastOfSplit_28 rfl rfl ?_
      refine V_iload_n C dX9_leastOfSplit_135 rfl ?_
      refine V_iload C dX9_leastOfSplit_136 rfl ?_
      refine V_if_eq C 150 dX9_leastOfSplit_138 (by decide) (by omega) (fun z138 => ?_) (fun z138 => ?_)
      · refine V_iload C dX9_leastOfSplit_150 rfl ?_
        refine V_wr ?_
        refine V_iastJ C dX9_leastOfSplit_152 (hM.k ⟨by decide,by decide⟩) (by first | assumption | decide) (by omega) (zMu_k (by decide)) ?_
        refine V_aload_n C dX9_leastOfSplit_153 rfl ?_
        refine V_getR C 11 dX9_leastOfSplit_154 o9 rfl hin_X9_leastOfSplit_X9 (by decide) lk_X9_leastOfSplit_31 rfl rfl ?_
        refine V_iload_n C dX9_leastOfSplit_157 rfl ?_
        refine V_iload C dX9_leastOfSplit_158 rfl ?_
        refine V_if_eq C 168 dX9_leastOfSplit_160 (by decide) (by omega) (fun z160 => ?_) (fun z160 => ?_)
        · refine V_iload_n C dX9_leastOfSplit_168 rfl ?_
          refine V_iload C dX9_leastOfSplit_169 rfl ?_
          refine V_iadd C dX9_leastOfSplit_171 ?_
          refine V_iconst C dX9_leastOfSplit_172 ?_
          refine V_isub C dX9_leastOfSplit_173 ?_
          refine V_wr ?_
          refine V_iastJ C dX9_leastOfSplit_174 (hM.k ⟨by decide,by decide⟩) (by first | assumption | decide) (by omega) (zMu_k (by decide)) ?_
          refine V_return C E dX9_leastOfSplit_175 (by omega) (by omega) ?_
          first | exact Dt_rfl | (exfalso; omega)
        · refine V_iload C dX9_leastOfSplit_163 rfl ?_
          refine V_goto C 174 dX9_leastOfSplit_165 (by decide) ?_
          refine V_wr ?_
          refine V_iastJ C dX9_leastOfSplit_174 (hM.k ⟨by decide,by decide⟩) (by first | assumption | decide) (by omega) (zMu_k (by decide)) ?_
          refine V_return C E dX9_leastOfSplit_175 (by omega) (by omega) ?_
          first | exact Dt_rfl | (exfalso; omega)
      · refine V_iload_n C dX9_leastOfSplit_141 rfl ?_
        refine V_iload C dX9_leastOfSplit_142 rfl ?_
        refine V_iadd C dX9_leastOfSplit_144 ?_
        refine V_iconst C dX9_leastOfSplit_145 ?_
        refine V_isub C dX9_leastOfSplit_146 ?_
        refine V_goto C 152 dX9_leastOfSplit_147 (by decide) ?_
        refine V_wr ?_
        refine V_iastJ C dX9_leastOfSplit_152 (hM.k ⟨by decide,by decide⟩) (by first | assumption | decide) (by omega) (zMu_k (by decide)) ?_
        refine V_aload_n C dX9_leastOfSplit_153 rfl ?_
        refine V_getR C 11 dX9_leastOfSplit_154 o9 rfl hin_X9_leastOfSplit_X9 (by decide) lk_X9_leastOfSplit_31 rfl rfl ?_
        refine V_iload_n C dX9_leastOfSplit_157 rfl ?_
        refine V_iload C dX9_leastOfSplit_158 rfl ?_
        refine V_if_eq C 168 dX9_leastOfSplit_160 (by decide) (by omega) (fun z160 => ?_) (fun z160 => ?_)
        · refine V_iload_n C dX9_leastOfSplit_168 rfl ?_
          refine V_iload C dX9_leastOfSplit_169 rfl ?_
          refine V_iadd C dX9_leastOfSplit_171 ?_
          refine V_iconst C dX9_leastOfSplit_172 ?_
          refine V_isub C dX9_leastOfSplit_173 ?_
          refine V_wr ?_
          refine V_iastJ C dX9_leastOfSplit_174 (hM.k ⟨by decide,by decide⟩) (by first | assumption | decide) (by omega) (zMu_k (by decide)) ?_
          refine V_return C E dX9_leastOfSplit_175 (by omega) (by omega) ?_
          first | exact Dt_rfl | (exfalso; omega)
        · refine V_iload C dX9_leastOfSplit_163 rfl ?_
          refine V_goto C 174 dX9_leastOfSplit_165 (by decide) ?_
          refine V_wr ?_
          refine V_iastJ C dX9_leastOfSplit_174 (hM.k ⟨by decide,by decide⟩) (by first | assumption | decide) (by omega) (zMu_k (by decide)) ?_
          refine V_return C E dX9_leastOfSplit_175 (by omega) (by omega) ?_
          first | exact Dt_rfl | (exfalso; omega)
    · rw [if_pos (by assumption), if_pos (by assumption)] at E
      refine V_iconst C dX9_leastOfSplit_124 ?_
      refine V_goto C 129 dX9_leastOfSplit_125 (by decide) ?_
      refine V_istore C dX9_leastOfSplit_129 rfl (by decide) ?_
      refine V_aload_n C dX9_leastOfSplit_131 rfl ?_
      refine V_getR C 10 dX9_leastOfSplit_132 o9 rfl hin_X9_leastOfSplit_X9 (by decide) lk_X9_leastOfSplit_28 rfl rfl ?_
      refine V_iload_n C dX9_leastOfSplit_135 rfl ?_
      refine V_iload C dX9_leastOfSplit_136 rfl ?_
      refine V_if_eq C 150 dX9_leastOfSplit_138 (by decide) (by omega) (fun z138 => ?_) (fun z138 => ?_)
      · refine V_iload C dX9_leastOfSplit_150 rfl ?_
        refine V_wr ?_
        refine V_iastJ C dX9_leastOfSplit_152 (hM.k ⟨by decide,by decide⟩) (by first | assumption | decide) (by omega) (zMu_k (by decide)) ?_
        refine V_aload_n C dX9_leastOfSplit_153 rfl ?_
        refine V_getR C 11 dX9_leastOfSplit_154 o9 rfl hin_X9_leastOfSplit_X9 (by decide) lk_X9_leastOfSplit_31 rfl rfl ?_
        refine V_iload_n C dX9_leastOfSplit_157 rfl ?_
        refine V_iload C dX9_leastOfSplit_158 rfl ?_
        refine V_if_eq C 168 dX9_leastOfSplit_160 (by decide) (by omega) (fun z160 => ?_) (fun z160 => ?_)
        · refine V_iload_n C dX9_leastOfSplit_168 rfl ?_
          refine V_iload C dX9_leastOfSplit_169 rfl ?_
          refine V_iadd C dX9_leastOfSplit_171 ?_
          refine V_iconst C dX9_leastOfSplit_172 ?_
          refine V_isub C dX9_leastOfSplit_173 ?_
          refine V_wr ?_
          refine V_iastJ C dX9_leastOfSplit_174 (hM.k ⟨by decide,by decide⟩) (by first | assumption | decide) (by omega) (zMu_k (by decide)) ?_
          refine V_return C E dX9_leastOfSplit_175 (by omega) (by omega) ?_
          first | exact Dt_rfl | (exfalso; omega)
        · refine V_iload C dX9_leastOfSplit_163 rfl ?_
          refine V_goto C 174 dX9_leastOfSplit_165 (by decide) ?_
          refine V_wr ?_
          refine V_iastJ C dX9_leastOfSplit_174 (hM.k ⟨by decide,by decide⟩) (by first | assumption | decide) (by omega) (zMu_k (by decide)) ?_
          refine V_return C E dX9_leastOfSplit_175 (by omega) (by omega) ?_
          first | exact Dt_rfl | (exfalso; omega)
      · refine V_iload_n C dX9_leastOfSplit_141 rfl ?_
        refine V_iload C dX9_leastOfSplit_142 rfl ?_
        refine V_iadd C dX9_leastOfSplit_144 ?_
        refine V_iconst C dX9_leastOfSplit_145 ?_
        refine V_isub C dX9_leastOfSplit_146 ?_
        refine V_goto C 152 dX9_leastOfSplit_147 (by decide) ?_
        refine V_wr ?_
        refine V_iastJ C dX9_leastOfSplit_152 (hM.k ⟨by decide,by decide⟩) (by first | assumption | decide) (by omega) (zMu_k (by decide)) ?_
        refine V_aload_n C dX9_leastOfSplit_153 rfl ?_
        refine V_getR C 11 dX9_leastOfSplit_154 o9 rfl hin_X9_leastOfSplit_X9 (by decide) lk_X9_leastOfSplit_31 rfl rfl ?_
        refine V_iload_n C dX9_leastOfSplit_157 rfl ?_
        refine V_iload C dX9_leastOfSplit_158 rfl ?_
        refine V_if_eq C 168 dX9_leastOfSplit_160 (by decide) (by omega) (fun z160 => ?_) (fun z160 => ?_)
        · refine V_iload_n C dX9_leastOfSplit_168 rfl ?_
          refine V_iload C dX9_leastOfSplit_169 rfl ?_
          refine V_iadd C dX9_leastOfSplit_171 ?_
          refine V_iconst C dX9_leastOfSplit_172 ?_
          refine V_isub C dX9_leastOfSplit_173 ?_
          refine V_wr ?_
          refine V_iastJ C dX9_leastOfSplit_174 (hM.k ⟨by decide,by decide⟩) (by first | assumption | decide) (by omega) (zMu_k (by decide)) ?_
          refine V_return C E dX9_leastOfSplit_175 (by omega) (by omega) ?_
          first | exact Dt_rfl | (exfalso; omega)
        · refine V_iload C dX9_leastOfSplit_163 rfl ?_
          refine V_goto C 174 dX9_leastOfSplit_165 (by decide) ?_
          refine V_wr ?_
          refine V_iastJ C dX9_leastOfSplit_174 (hM.k ⟨by decide,by decide⟩) (by first | assumption | decide) (by omega) (zMu_k (by decide)) ?_
          refine V_return C E dX9_leastOfSplit_175 (by omega) (by omega) ?_
          first | exact Dt_rfl | (exfalso; omega)
  have loop : ∀ (d j : Nat) (w8 : Option Value), j + d = K.toNat → V X 20 [some (.ref r), some (.int (I32 x)), some (.int (I32 (smG (fun k => Z 7 (cc k)) j))), some (.int (I32 (smG (fun k => Z 8 (cc k)) j))), some (.int (I32 (mmG (fun k => Z 7 (cc k)) j))), some (.int (I32 (mmG (fun k => Z 8 (cc k)) j))), some (.int (I32 K)), some (.int (I32 (j : Int))), w8] [] S n (lyM mu r T q Z) la 0 0 := by
    intro d
    induction d with
    | zero =>
      intro j w8 h1
      have hj : j = K.toNat := by omega
      refine V_iload C dX9_leastOfSplit_20 rfl ?_
      refine V_iload C dX9_leastOfSplit_22 rfl ?_
      refine V_icmp_ge C 114 dX9_leastOfSplit_24 (by decide) (by omega) (by omega) (fun z => ?_) (fun z => ?_)
      · exact last _ _ _ _ _ _ (by rw [hj]) (by rw [hj]) (by rw [hj]) (by rw [hj])
      · exact absurd z (by omega)
    | succ d ih =>
      intro j w8 h1
      have h9 := fun w => ih (j + 1) w (by omega)
      have r7 := r7 j
      have r8 := r8 j
      have q7 := hR 7 (cc j) (by decide)
      have q8 := hR 8 (cc j) (by decide)
      have hc := hk.2 j (by omega)
      have hc2 := cb j
      rw [smG, smG, mmG, mmG] at h9
      generalize smG (fun k => Z 7 (cc k)) j = s7 at h9
      generalize smG (fun k => Z 8 (cc k)) j = s8 at h9
      generalize mmG (fun k => Z 7 (cc k)) j = m7 at h9 r7
      generalize mmG (fun k => Z 8 (cc k)) j = m8 at h9 r8
      try dsimp only at h9
      refine V_iload C dX9_leastOfSplit_20 rfl ?_
      refine V_iload C dX9_leastOfSplit_22 rfl ?_
      refine V_icmp_ge C 114 dX9_leastOfSplit_24 (by decide) (by omega) (by omega) (fun z24 => ?_) (fun z24 => ?_)
      · exact absurd z24 (by first | omega | decide)
      · refine V_aload_n C dX9_leastOfSplit_27 rfl ?_
        refine V_iload_n C dX9_leastOfSplit_28 rfl ?_
        refine V_iload C dX9_leastOfSplit_29 rfl ?_
        refine V_callVD (nA := 2) C dX9_leastOfSplit_31 (m_child C.gp hM hB (by omega) (by omega) (by omega)) gX9_leastOfSplit_X9_child rfl o9 rfl (by decide +kernel) rfl (by decide) (by decide) (Nat.le_of_ble_eq_true rfl) ⟨by omega, by omega⟩ rfl ?_
        rw [ec]
        refine V_istore C dX9_leastOfSplit_34 rfl (by decide) ?_
        refine V_iload_n C dX9_leastOfSplit_36 rfl ?_
        refine V_aload_n C dX9_leastOfSplit_37 rfl ?_
        refine V_getR C 10 dX9_leastOfSplit_38 o9 rfl hin_X9_leastOfSplit_X9 (by decide) lk_X9_leastOfSplit_28 rfl rfl ?_
        refine V_iload C dX9_leastOfSplit_41 rfl ?_
        refine V_ialdJ C dX9_leastOfSplit_43 (hM.k ⟨by decide,by decide⟩) (by first | assumption | decide) (by omega) (zM_k (by decide)) ?_
        refine V_iadd C dX9_leastOfSplit_44 ?_
        refine V_istore_n C dX9_leastOfSplit_45 rfl (by decide) ?_
        refine V_iload_n C dX9_leastOfSplit_46 rfl ?_
        refine V_aload_n C dX9_leastOfSplit_47 rfl ?_
        refine V_getR C 11 dX9_leastOfSplit_48 o9 rfl hin_X9_leastOfSplit_X9 (by decide) lk_X9_leastOfSplit_31 rfl rfl ?_
        refine V_iload C dX9_leastOfSplit_51 rfl ?_
        refine V_ialdJ C dX9_leastOfSplit_53 (hM.k ⟨by decide,by decide⟩) (by first | assumption | decide) (by omega) (zM_k (by decide)) ?_
        refine V_iadd C dX9_leastOfSplit_54 ?_
        refine V_istore_n C dX9_leastOfSplit_55 rfl (by decide) ?_
        refine V_aload_n C dX9_leastOfSplit_56 rfl ?_
        refine V_getR C 10 dX9_leastOfSplit_57 o9 rfl hin_X9_leastOfSplit_X9 (by decide) lk_X9_leastOfSplit_28 rfl rfl ?_
        refine V_iload C dX9_leastOfSplit_60 rfl ?_
        refine V_ialdJ C dX9_leastOfSplit_62 (hM.k ⟨by decide,by decide⟩) (by first | assumption | decide) (by omega) (zM_k (by decide)) ?_
        refine V_iload C dX9_leastOfSplit_63 rfl ?_
        refine V_icmp_le C 78 dX9_leastOfSplit_65 (by decide) (by omega) (by omega) (fun z65 => ?_) (fun z65 => ?_)
        · rw [if_neg (show ¬ m7 < Z 7 (cc j) by omega)] at h9
          refine V_iload C dX9_leastOfSplit_78 rfl ?_
          refine V_istore C dX9_leastOfSplit_80 rfl (by decide) ?_
          refine V_aload_n C dX9_leastOfSplit_82 rfl ?_
          refine V_getR C 11 dX9_leastOfSplit_83 o9 rfl hin_X9_leastOfSplit_X9 (by decide) lk_X9_leastOfSplit_31 rfl rfl ?_
          refine V_iload C dX9_leastOfSplit_86 rfl ?_
          refine V_ialdJ C dX9_leastOfSplit_88 (hM.k ⟨by decide,by decide⟩) (by first | assumption | decide) (by omega) (zM_k (by decide)) ?_
          refine V_iload C dX9_leastOfSplit_89 rfl ?_
          refine V_icmp_le C 104 dX9_leastOfSplit_91 (by decide) (by omega) (by omega) (fun z91 => ?_) (fun z91 => ?_)
          · rw [if_neg (show ¬ m8 < Z 8 (cc j) by omega)] at h9
            refine V_iload C dX9_leastOfSplit_104 rfl ?_
            refine V_istore C dX9_leastOfSplit_106 rfl (by decide) ?_
            refine V_iinc C dX9_leastOfSplit_108 rfl rfl (by decide) ?_
            refine V_goto C 20 dX9_leastOfSplit_111 (by decide) ?_
            exact h9 _
          · rw [if_pos (show m8 < Z 8 (cc j) by omega)] at h9
            refine V_aload_n C dX9_leastOfSplit_94 rfl ?_
            refine V_getR C 11 dX9_leastOfSplit_95 o9 rfl hin_X9_leastOfSplit_X9 (by decide) lk_X9_leastOfSplit_31 rfl rfl ?_
            refine V_iload C dX9_leastOfSplit_98 rfl ?_
            refine V_ialdJ C dX9_leastOfSplit_100 (hM.k ⟨by decide,by decide⟩) (by first | assumption | decide) (by omega) (zM_k (by decide)) ?_
            refine V_goto C 106 dX9_leastOfSplit_101 (by decide) ?_
            refine V_istore C dX9_leastOfSplit_106 rfl (by decide) ?_
            refine V_iinc C dX9_leastOfSplit_108 rfl rfl (by decide) ?_
            refine V_goto C 20 dX9_leastOfSplit_111 (by decide) ?_
            exact h9 _
        · rw [if_pos (show m7 < Z 7 (cc j) by omega)] at h9
          refine V_aload_n C dX9_leastOfSplit_68 rfl ?_
          refine V_getR C 10 dX9_leastOfSplit_69 o9 rfl hin_X9_leastOfSplit_X9 (by decide) lk_X9_leastOfSplit_28 rfl rfl ?_
          refine V_iload C dX9_leastOfSplit_72 rfl ?_
          refine V_ialdJ C dX9_leastOfSplit_74 (hM.k ⟨by decide,by decide⟩) (by first | assumption | decide) (by omega) (zM_k (by decide)) ?_
          refine V_goto C 80 dX9_leastOfSplit_75 (by decide) ?_
          refine V_istore C dX9_leastOfSplit_80 rfl (by decide) ?_
          refine V_aload_n C dX9_leastOfSplit_82 rfl ?_
          refine V_getR C 11 dX9_leastOfSplit_83 o9 rfl hin_X9_leastOfSplit_X9 (by decide) lk_X9_leastOfSplit_31 rfl rfl ?_
          refine V_iload C dX9_leastOfSplit_86 rfl ?_
          refine V_ialdJ C dX9_leastOfSplit_88 (hM.k ⟨by decide,by decide⟩) (by first | assumption | decide) (by omega) (zM_k (by decide)) ?_
          refine V_iload C dX9_leastOfSplit_89 rfl ?_
          refine V_icmp_le C 104 dX9_leastOfSplit_91 (by decide) (by omega) (by omega) (fun z91 => ?_) (fun z91 => ?_)
          · rw [if_neg (show ¬ m8 < Z 8 (cc j) by omega)] at h9
            refine V_iload C dX9_leastOfSplit_104 rfl ?_
            refine V_istore C dX9_leastOfSplit_106 rfl (by decide) ?_
            refine V_iinc C dX9_leastOfSplit_108 rfl rfl (by decide) ?_
            refine V_goto C 20 dX9_leastOfSplit_111 (by decide) ?_
            exact h9 _
          · rw [if_pos (show m8 < Z 8 (cc j) by omega)] at h9
            refine V_aload_n C dX9_leastOfSplit_94 rfl ?_
            refine V_getR C 11 dX9_leastOfSplit_95 o9 rfl hin_X9_leastOfSplit_X9 (by decide) lk_X9_leastOfSplit_31 rfl rfl ?_
            refine V_iload C dX9_leastOfSplit_98 rfl ?_
            refine V_ialdJ C dX9_leastOfSplit_100 (hM.k ⟨by decide,by decide⟩) (by first | assumption | decide) (by omega) (zM_k (by decide)) ?_
            refine V_goto C 106 dX9_leastOfSplit_101 (by decide) ?_
            refine V_istore C dX9_leastOfSplit_106 rfl (by decide) ?_
            refine V_iinc C dX9_leastOfSplit_108 rfl rfl (by decide) ?_
            refine V_goto C 20 dX9_leastOfSplit_111 (by decide) ?_
            exact h9 _
  refine V_iconst C dX9_leastOfSplit_0 ?_
  refine V_istore_n C dX9_leastOfSplit_1 rfl (by decide) ?_
  refine V_iconst C dX9_leastOfSplit_2 ?_
  refine V_istore_n C dX9_leastOfSplit_3 rfl (by decide) ?_
  refine V_iconst C dX9_leastOfSplit_4 ?_
  refine V_istore C dX9_leastOfSplit_5 rfl (by decide) ?_
  refine V_iconst C dX9_leastOfSplit_7 ?_
  refine V_istore C dX9_leastOfSplit_8 rfl (by decide) ?_
  refine V_aload_n C dX9_leastOfSplit_10 rfl ?_
  refine V_iload_n C dX9_leastOfSplit_11 rfl ?_
  refine V_callVD (nA := 1) C dX9_leastOfSplit_12 (m_children C.gp hM hB (by omega) (by omega)) gX9_leastOfSplit_X9_children rfl o9 rfl (by decide +kernel) rfl (by decide) (by decide) (Nat.le_of_ble_eq_true rfl) ⟨by omega, by omega⟩ rfl ?_
  rw [eK]
  refine V_istore C dX9_leastOfSplit_15 rfl (by decide) ?_
  refine V_iconst C dX9_leastOfSplit_17 ?_
  refine V_istore C dX9_leastOfSplit_18 rfl (by decide) ?_
  exact loop K.toNat 0 none (by omega)
/-- a look of 'fixes' -/
def fsh (T Z : Mem) (s rm wt k : Int) : Int := if Z 15 k = 1 then ltF T Z s (chT T s k) else rm * T 3 (chT T s k) / wt
def ffx (T Z : Mem) (s rm wt k : Int) : Int := if Z 15 k = 0 ∧ fsh T Z s rm wt k < ltF T Z s (chT T s k) then 1 else 0
def fxP (T Z : Mem) (s rm wt j : Int) : Mem := fun w i => if w = 14 ∧ 0 ≤ i ∧ i < j then fsh T Z s rm wt i else if w = 15 ∧ 0 ≤ i ∧ i < j ∧ ffx T Z s rm wt i = 1 then 2 else Z w i
theorem fxP_0 (T Z : Mem) (s rm wt : Int) : fxP T Z s rm wt 0 = Z := by funext w i; unfold fxP; rw [if_neg (by omega), if_neg (by omega)]
theorem fxP_k (T Z : Mem) (s rm wt j i : Int) {w : Nat} (h : w ≠ 14) (h2 : w ≠ 15) : fxP T Z s rm wt j w i = Z w i := by unfold fxP; rw [if_neg (by omega), if_neg (by omega)]
theorem fxP_hi (T Z : Mem) (s rm wt j i : Int) (h : j ≤ i) (w : Nat) : fxP T Z s rm wt j w i = Z w i := by unfold fxP; rw [if_neg (by omega), if_neg (by omega)]
theorem ffx_b (T Z : Mem) (s rm wt k : Int) : 0 ≤ ffx T Z s rm wt k ∧ ffx T Z s rm wt k ≤ 1 := by unfold ffx; split <;> omega
theorem fxP_s {T Z : Mem} {s rm wt j : Int} (hj : 0 ≤ j) (h : ffx T Z s rm wt j = 0) : up (fxP T Z s rm wt j) 14 j (fsh T Z s rm wt j) = fxP T Z s rm wt (j + 1) := by
  funext w i
  rw [up_e]
  unfold fxP
  by_cases q1 : w = 14 ∧ i = j
  · rw [if_pos q1, if_pos (by omega), q1.2]
  · rw [if_neg q1]
    by_cases q2 : w = 14 ∧ 0 ≤ i ∧ i < j
    · rw [if_pos q2, if_pos (by omega)]
    · rw [if_neg q2]
      by_cases q3 : w = 15 ∧ 0 ≤ i ∧ i < j ∧ ffx T Z s rm wt i = 1
      · rw [if_pos q3, if_neg (by omega), if_pos (by omega)]
      · rw [if_neg q3, if_neg (by omega), if_neg]
        intro q4
        by_cases q5 : i = j
        · rw [q5] at q4; omega
        · omega
theorem fxP_t {T Z : Mem} {s rm wt j : Int} (hj : 0 ≤ j) (h : ffx T Z s rm wt j = 1) : up (up (fxP T Z s rm wt j) 14 j (fsh T Z s rm wt j)) 15 j 2 = fxP T Z s rm wt (j + 1) := by
  funext w i
  rw [up_e, up_e]
  unfold fxP
  by_cases q0 : w = 15 ∧ i = j
  · rw [if_pos q0, if_neg (by omega), if_pos (by rw [q0.2]; omega)]
  · rw [if_neg q0]
    by_cases q1 : w = 14 ∧ i = j
    · rw [if_pos q1, if_pos (by omega), q1.2]
    · rw [if_neg q1]
      by_cases q2 : w = 14 ∧ 0 ≤ i ∧ i < j
      · rw [if_pos q2, if_pos (by omega)]
      · rw [if_neg q2]
        by_cases q3 : w = 15 ∧ 0 ≤ i ∧ i < j ∧ ffx T Z s rm wt i = 1
        · rw [if_pos q3, if_neg (by omega), if_pos (by omega)]
        · rw [if_neg q3, if_neg (by omega), if_neg (by omega)]
theorem ltF_fx (T Z : Mem) (s rm wt j s2 c : Int) : ltF T (fxP T Z s rm wt j) s2 c = ltF T Z s2 c := by
  unfold ltF; rw [fxP_k _ _ _ _ _ _ _ (by decide) (by decide), fxP_k _ _ _ _ _ _ _ (by decide) (by decide)]
/-- what the look needs: children, weights, room -/
def okX (T Z : Mem) (s : Int) (m : Nat) (rm wt : Int) : Prop := (0 ≤ rm ∧ rm ≤ 1000) ∧ wt ≤ 100000000 ∧ (∀ k : Int, 0 ≤ k ∧ k < m → ¬ Z 15 k = 1 → 0 < wt) ∧ ∀ k : Int, 0 ≤ k ∧ k < m → 0 ≤ chT T s k ∧ 0 ≤ T 3 (chT T s k) ∧ T 3 (chT T s k) ≤ 1000000
theorem fsh_R {T Z : Mem} {s : Int} {m : Nat} {rm wt : Int} (hR : R32Z Z) (h : okX T Z s m rm wt) {k : Int} (hk : 0 ≤ k ∧ k < m) : -2147483648 ≤ fsh T Z s rm wt k ∧ fsh T Z s rm wt k ≤ 2147483647 := by
  unfold fsh
  split
  · exact ltF_R hR _ _
  · rename_i z
    have h1 := h.2.2.1 k hk z
    have h2 := h.2.2.2 k hk
    have h3 : 0 ≤ rm * T 3 (chT T s k) := Int.mul_nonneg h.1.1 h2.2.1
    have h4 : rm * T 3 (chT T s k) ≤ 1000 * 1000000 := Int.mul_le_mul h.1.2 h2.2.2 h2.2.1 (by decide)
    have h5 : 0 ≤ rm * T 3 (chT T s k) / wt := Int.ediv_nonneg h3 (by omega)
    have h6 : rm * T 3 (chT T s k) / wt ≤ rm * T 3 (chT T s k) := Int.ediv_le_self _ h3
    omega
theorem fxP_R {T Z : Mem} {s : Int} {m : Nat} {rm wt : Int} (hR : R32Z Z) (h : okX T Z s m rm wt) {j : Int} (hj : j ≤ m) : R32Z (fxP T Z s rm wt j) := by
  intro k i hk
  unfold fxP
  split
  · exact fsh_R hR h (by omega)
  · split
    · omega
    · exact hR k i hk
set_option maxRecDepth 20000 in
theorem ggX9_fixes_X9_child : GoodIn wsX9_fixes wsX9_child := goodIn_r _ [7, 8, 9, 10, 6, 11, 12, 13, 14, 15, 22, 23, 24, 25, 26, 27, 28, 29, 30, 31, 32, 33, 34, 35, 36, 37, 38, 39, 40, 41, 42, 43, 44, 45] (by decide +kernel) (by decide +kernel)
set_option maxRecDepth 20000 in
theorem gX9_fixes_X9_child : GoodIn wsX9_fixes (wsV RX9 105 RX9 yX9_child wsX9_child) := goodIn_app (goodIn_of _ (by decide +kernel)) ggX9_fixes_X9_child
set_option maxRecDepth 20000 in
theorem ggX9_fixes_X9_least : GoodIn wsX9_fixes wsX9_least := goodIn_r _ [19, 20, 21, 8, 9, 10, 6, 11, 12, 22, 23, 24, 25, 26, 27, 28, 29, 30, 31, 32, 33, 34, 35, 36, 37, 38, 39, 40, 41, 42, 43, 44, 45] (by decide +kernel) (by decide +kernel)
set_option maxRecDepth 20000 in
theorem gX9_fixes_X9_least : GoodIn wsX9_fixes (wsV RX9 108 RX9 yX9_least wsX9_least) := goodIn_app (goodIn_of _ (by decide +kernel)) ggX9_fixes_X9_least
set_option maxRecDepth 20000 in
theorem ggX9_fixes_X9_of : GoodIn wsX9_fixes wsX9_of := goodIn_r _ [11, 12, 22, 23, 24, 25, 26, 27, 28, 29, 30, 31, 32, 33, 34, 35, 36, 37, 38, 39, 40, 41, 42, 43, 44, 45] (by decide +kernel) (by decide +kernel)
set_option maxRecDepth 20000 in
theorem gX9_fixes_X9_of : GoodIn wsX9_fixes (wsV RX9 77 RX9 yX9_of wsX9_of) := goodIn_app (goodIn_of _ (by decide +kernel)) ggX9_fixes_X9_of
theorem dX9_fixes_0 : decode cX9_fixes 0 = .ok (.iconst 0, 1) := by decide +kernel
theorem dX9_fixes_1 : decode cX9_fixes 1 = .ok (.istore 6, 2) := by decide +kernel
theorem dX9_fixes_3 : decode cX9_fixes 3 = .ok (.iconst 0, 1) := by decide +kernel
theorem dX9_fixes_4 : decode cX9_fixes 4 = .ok (.istore 7, 2) := by decide +kernel
theorem dX9_fixes_6 : decode cX9_fixes 6 = .ok (.iload 7, 2) := by decide +kernel
theorem dX9_fixes_8 : decode cX9_fixes 8 = .ok (.iload_n 2, 1) := by decide +kernel
theorem dX9_fixes_9 : decode cX9_fixes 9 = .ok (.if_icmp .ge 99, 3) := by decide +kernel
theorem dX9_fixes_12 : decode cX9_fixes 12 = .ok (.aload_n 0, 1) := by decide +kernel
theorem dX9_fixes_13 : decode cX9_fixes 13 = .ok (.iload_n 1, 1) := by decide +kernel
theorem dX9_fixes_14 : decode cX9_fixes 14 = .ok (.iload 7, 2) := by decide +kernel
theorem dX9_fixes_16 : decode cX9_fixes 16 = .ok (.invokevirtual 105, 3) := by decide +kernel
theorem dX9_fixes_19 : decode cX9_fixes 19 = .ok (.istore 8, 2) := by decide +kernel
theorem dX9_fixes_21 : decode cX9_fixes 21 = .ok (.aload_n 0, 1) := by decide +kernel
theorem dX9_fixes_22 : decode cX9_fixes 22 = .ok (.getfield 49, 3) := by decide +kernel
theorem dX9_fixes_25 : decode cX9_fixes 25 = .ok (.iload 7, 2) := by decide +kernel
theorem dX9_fixes_27 : decode cX9_fixes 27 = .ok (.aload_n 0, 1) := by decide +kernel
theorem dX9_fixes_28 : decode cX9_fixes 28 = .ok (.getfield 52, 3) := by decide +kernel
theorem dX9_fixes_31 : decode cX9_fixes 31 = .ok (.iload 7, 2) := by decide +kernel
theorem dX9_fixes_33 : decode cX9_fixes 33 = .ok (.iaload, 1) := by decide +kernel
theorem dX9_fixes_34 : decode cX9_fixes 34 = .ok (.iconst 1, 1) := by decide +kernel
theorem dX9_fixes_35 : decode cX9_fixes 35 = .ok (.if_icmp .ne 13, 3) := by decide +kernel
theorem dX9_fixes_38 : decode cX9_fixes 38 = .ok (.aload_n 0, 1) := by decide +kernel
theorem dX9_fixes_39 : decode cX9_fixes 39 = .ok (.iload_n 1, 1) := by decide +kernel
theorem dX9_fixes_40 : decode cX9_fixes 40 = .ok (.iload 8, 2) := by decide +kernel
theorem dX9_fixes_42 : decode cX9_fixes 42 = .ok (.invokevirtual 108, 3) := by decide +kernel
theorem dX9_fixes_45 : decode cX9_fixes 45 = .ok (.goto 18, 3) := by decide +kernel
theorem dX9_fixes_48 : decode cX9_fixes 48 = .ok (.iload_n 3, 1) := by decide +kernel
theorem dX9_fixes_49 : decode cX9_fixes 49 = .ok (.i2l, 1) := by decide +kernel
theorem dX9_fixes_50 : decode cX9_fixes 50 = .ok (.aload_n 0, 1) := by decide +kernel
theorem dX9_fixes_51 : decode cX9_fixes 51 = .ok (.iload 8, 2) := by decide +kernel
theorem dX9_fixes_53 : decode cX9_fixes 53 = .ok (.iconst 3, 1) := by decide +kernel
theorem dX9_fixes_54 : decode cX9_fixes 54 = .ok (.invokevirtual 77, 3) := by decide +kernel
theorem dX9_fixes_57 : decode cX9_fixes 57 = .ok (.i2l, 1) := by decide +kernel
theorem dX9_fixes_58 : decode cX9_fixes 58 = .ok (.lmul, 1) := by decide +kernel
theorem dX9_fixes_59 : decode cX9_fixes 59 = .ok (.lload 4, 2) := by decide +kernel
theorem dX9_fixes_61 : decode cX9_fixes 61 = .ok (.ldiv, 1) := by decide +kernel
theorem dX9_fixes_62 : decode cX9_fixes 62 = .ok (.l2i, 1) := by decide +kernel
theorem dX9_fixes_63 : decode cX9_fixes 63 = .ok (.iastore, 1) := by decide +kernel
theorem dX9_fixes_64 : decode cX9_fixes 64 = .ok (.aload_n 0, 1) := by decide +kernel
theorem dX9_fixes_65 : decode cX9_fixes 65 = .ok (.getfield 52, 3) := by decide +kernel
theorem dX9_fixes_68 : decode cX9_fixes 68 = .ok (.iload 7, 2) := by decide +kernel
theorem dX9_fixes_70 : decode cX9_fixes 70 = .ok (.iaload, 1) := by decide +kernel
theorem dX9_fixes_71 : decode cX9_fixes 71 = .ok (.ifCond .ne 31, 3) := by decide +kernel
theorem dX9_fixes_74 : decode cX9_fixes 74 = .ok (.aload_n 0, 1) := by decide +kernel
theorem dX9_fixes_75 : decode cX9_fixes 75 = .ok (.getfield 49, 3) := by decide +kernel
theorem dX9_fixes_78 : decode cX9_fixes 78 = .ok (.iload 7, 2) := by decide +kernel
theorem dX9_fixes_80 : decode cX9_fixes 80 = .ok (.iaload, 1) := by decide +kernel
theorem dX9_fixes_81 : decode cX9_fixes 81 = .ok (.aload_n 0, 1) := by decide +kernel
theorem dX9_fixes_82 : decode cX9_fixes 82 = .ok (.iload_n 1, 1) := by decide +kernel
theorem dX9_fixes_83 : decode cX9_fixes 83 = .ok (.iload 8, 2) := by decide +kernel
theorem dX9_fixes_85 : decode cX9_fixes 85 = .ok (.invokevirtual 108, 3) := by decide +kernel
theorem dX9_fixes_88 : decode cX9_fixes 88 = .ok (.if_icmp .ge 14, 3) := by decide +kernel
theorem dX9_fixes_91 : decode cX9_fixes 91 = .ok (.aload_n 0, 1) := by decide +kernel
theorem dX9_fixes_92 : decode cX9_fixes 92 = .ok (.getfield 52, 3) := by decide +kernel
theorem dX9_fixes_95 : decode cX9_fixes 95 = .ok (.iload 7, 2) := by decide +kernel
theorem dX9_fixes_97 : decode cX9_fixes 97 = .ok (.iconst 2, 1) := by decide +kernel
theorem dX9_fixes_98 : decode cX9_fixes 98 = .ok (.iastore, 1) := by decide +kernel
theorem dX9_fixes_99 : decode cX9_fixes 99 = .ok (.iinc 6 1, 3) := by decide +kernel
theorem dX9_fixes_102 : decode cX9_fixes 102 = .ok (.iinc 7 1, 3) := by decide +kernel
theorem dX9_fixes_105 : decode cX9_fixes 105 = .ok (.goto (-99), 3) := by decide +kernel
theorem dX9_fixes_108 : decode cX9_fixes 108 = .ok (.iload 6, 2) := by decide +kernel
theorem dX9_fixes_110 : decode cX9_fixes 110 = .ok (.ireturn, 1) := by decide +kernel
theorem hin_X9_fixes_X9 : ∀ w ∈ wsX90, w ∈ wsX9_fixes := by decide +kernel
theorem lk_X9_fixes_49 : Cond.fieldLink RX9 49 RX9 "share" "[I" ∈ wsX9_fixes := by decide +kernel
theorem lk_X9_fixes_52 : Cond.fieldLink RX9 52 RX9 "fixed" "[I" ∈ wsX9_fixes := by decide +kernel
theorem m_fixes (hG : GP G) (hM : MoS S r) {N : Int} (hB : TB N T) (hN : N ≤ 1073740000) (hR : R32Z Z) {q s rm wt : Int} {m : Nat} (hs : 0 ≤ s ∧ s < 32) (hm : m ≤ 16) (ho : okX T Z s m rm wt) : Ct G l yX9_fixes wsX9_fixes 2 0 0 [.ref r, .int (I32 s), .int (I32 (m : Int)), .int (I32 rm), .long (I64 wt)] S n (lyM mu r T q Z) la (Dt (some (.int (I32 (smG (ffx T Z s rm wt) m)))) S n (lyM mu r T q (fxP T Z s rm wt m)) la) := by
  have o9 := hM.1
  have b0 := hB.n 0 (by decide) hs
  refine Ct.ofV (cc := cX9_fixes) (nL := 9) (ret := (some .int)) [some (.ref r), some (.int (I32 s)), some (.int (I32 (m : Int))), some (.int (I32 rm)), some (.long (I64 wt)), none, none, none, none] hG (by decide) rfl (Nat.le_of_ble_eq_true rfl) rfl ?_
  rintro X rfl rfl C hcl hsl E
  have loop : ∀ (d j : Nat) (w8 : Option Value), j + d = m → V X 6 [some (.ref r), some (.int (I32 s)), some (.int (I32 (m : Int))), some (.int (I32 rm)), some (.long (I64 wt)), none, some (.int (I32 (smG (ffx T Z s rm wt) j))), some (.int (I32 (j : Int))), w8] [] S n (lyM mu r T q (fxP T Z s rm wt j)) la 0 0 := by
    intro d
    induction d with
    | zero =>
      intro j w8 h1
      have hj : j = m := by omega
      subst hj
      refine V_iload C dX9_fixes_6 rfl ?_
      refine V_iload_n C dX9_fixes_8 rfl ?_
      refine V_icmp_ge C 108 dX9_fixes_9 (by decide) (by omega) (by omega) (fun z9 => ?_) (fun z9 => ?_)
      · refine V_iload C dX9_fixes_108 rfl ?_
        refine V_ireturn C E dX9_fixes_110 (by omega) (by omega) ?_
        exact Dt_rfl
      · exact absurd z9 (by first | omega | decide)
    | succ d ih =>
      intro j w8 h1
      have h9 := fun w => ih (j + 1) w (by omega)
      rw [smG, show ((j + 1 : Nat) : Int) = (j : Int) + 1 from rfl] at h9
      have hc := ho.2.2.2 j (by omega)
      have hc2 := (chT_b T s j).2
      have hw := ho.2.2.1 j (by omega)
      have q15 := hR 15 j (by decide)
      have qL := ltF_R (T := T) hR s (chT T s j)
      have qS := fsh_R hR ho (k := (j : Int)) (by omega)
      have e15 : fxP T Z s rm wt j 15 j = Z 15 j := fxP_hi _ _ _ _ _ _ _ (by omega) _
      have e14 : up (fxP T Z s rm wt j) 14 j (fsh T Z s rm wt j) 15 j = Z 15 j := by rw [up_a _ _ _ _ (by decide)]; exact e15
      have e144 : up (fxP T Z s rm wt j) 14 j (fsh T Z s rm wt j) 14 j = fsh T Z s rm wt j := up_s _ _ _ _
      have eL : ltF T (up (fxP T Z s rm wt j) 14 j (fsh T Z s rm wt j)) s (chT T s j) = ltF T Z s (chT T s j) := by
        rw [← ltF_fx T Z s rm wt j s (chT T s j)]
        unfold ltF
        rw [up_a _ _ _ _ (by decide), up_a _ _ _ _ (by decide)]
      have bx := ffx_b T Z s rm wt j
      have tail : V X 64 [some (.ref r), some (.int (I32 s)), some (.int (I32 (m : Int))), some (.int (I32 rm)), some (.long (I64 wt)), none, some (.int (I32 (smG (ffx T Z s rm wt) j))), some (.int (I32 (j : Int))), some (.int (I32 (chT T s j)))] [] S n (lyM mu r T q (up (fxP T Z s rm wt j) 14 j (fsh T Z s rm wt j))) la 0 0 := by
        have hno : ffx T Z s rm wt j = 0 → V X 102 [some (.ref r), some (.int (I32 s)), some (.int (I32 (m : Int))), some (.int (I32 rm)), some (.long (I64 wt)), none, some (.int (I32 (smG (ffx T Z s rm wt) j))), some (.int (I32 (j : Int))), some (.int (I32 (chT T s j)))] [] S n (lyM mu r T q (up (fxP T Z s rm wt j) 14 j (fsh T Z s rm wt j))) la 0 0 := by
          intro h0
          rw [h0, Int.add_zero] at h9
          rw [fxP_s (by omega) h0]
          refine V_iinc C dX9_fixes_102 rfl rfl (by decide) ?_
          refine V_goto C 6 dX9_fixes_105 (by decide) ?_
          exact h9 _
        refine V_aload_n C dX9_fixes_64 rfl ?_
        refine V_getR C 18 dX9_fixes_65 o9 rfl hin_X9_fixes_X9 (by decide) lk_X9_fixes_52 rfl rfl ?_
        refine V_iload C dX9_fixes_68 rfl ?_
        refine V_ialdJ C dX9_fixes_70 hM.2.2.2.2.2.2.2.2.1 (by first | assumption | decide) (by omega) ((zM_k (by decide)).trans e14) ?_
        refine V_if_ne C 102 dX9_fixes_71 (by decide) (by omega) (fun z1 => ?_) (fun z1 => ?_)
        · exact hno (by unfold ffx; rw [if_neg (fun z => z1 z.1)])
        · refine V_aload_n C dX9_fixes_74 rfl ?_
          refine V_getR C 17 dX9_fixes_75 o9 rfl hin_X9_fixes_X9 (by decide) lk_X9_fixes_49 rfl rfl ?_
          refine V_iload C dX9_fixes_78 rfl ?_
          refine V_ialdJ C dX9_fixes_80 hM.2.2.2.2.2.2.2.1 (by first | assumption | decide) (by omega) ((zM_k (by decide)).trans e144) ?_
          refine V_aload_n C dX9_fixes_81 rfl ?_
          refine V_iload_n C dX9_fixes_82 rfl ?_
          refine V_iload C dX9_fixes_83 rfl ?_
          refine V_callVD (nA := 2) C dX9_fixes_85 (m_least C.gp hM hB (by omega) hs (by omega)) gX9_fixes_X9_least rfl o9 rfl (by decide +kernel) rfl (by decide) (by decide) (Nat.le_of_ble_eq_true rfl) ⟨by omega, by omega⟩ rfl ?_
          rw [eL]
          refine V_icmp_ge C 102 dX9_fixes_88 (by decide) (by omega) (by omega) (fun z2 => ?_) (fun z2 => ?_)
          · exact hno (by unfold ffx; rw [if_neg (fun z => by omega)])
          · have h1x : ffx T Z s rm wt j = 1 := by unfold ffx; rw [if_pos ⟨z1, z2⟩]
            rw [h1x] at h9
            refine V_aload_n C dX9_fixes_91 rfl ?_
            refine V_getR C 18 dX9_fixes_92 o9 rfl hin_X9_fixes_X9 (by decide) lk_X9_fixes_52 rfl rfl ?_
            refine V_iload C dX9_fixes_95 rfl ?_
            refine V_iconst C dX9_fixes_97 ?_
            refine V_iastJ C dX9_fixes_98 hM.2.2.2.2.2.2.2.2.1 (by first | assumption | decide) (by omega) (zMu_k (by decide)) ?_
            rw [fxP_t (by omega) h1x]
            refine V_iinc C dX9_fixes_99 rfl rfl (by decide) ?_
            refine V_iinc C dX9_fixes_102 rfl rfl (by decide) ?_
            refine V_goto C 6 dX9_fixes_105 (by decide) ?_
            exact h9 _
      refine V_iload C dX9_fixes_6 rfl ?_
      refine V_iload_n C dX9_fixes_8 rfl ?_
      refine V_icmp_ge C 108 dX9_fixes_9 (by decide) (by omega) (by omega) (fun z => ?_) (fun z => ?_)
      · exact absurd z (by omega)
      · refine V_aload_n C dX9_fixes_12 rfl ?_
        refine V_iload_n C dX9_fixes_13 rfl ?_
        refine V_iload C dX9_fixes_14 rfl ?_
        refine V_callVD (nA := 2) C dX9_fixes_16 (m_child C.gp hM hB (by omega) (by omega) (by omega)) gX9_fixes_X9_child rfl o9 rfl (by decide +kernel) rfl (by decide) (by decide) (Nat.le_of_ble_eq_true rfl) ⟨by omega, by omega⟩ rfl ?_
        refine V_istore C dX9_fixes_19 rfl (by decide) ?_
        refine V_aload_n C dX9_fixes_21 rfl ?_
        refine V_getR C 17 dX9_fixes_22 o9 rfl hin_X9_fixes_X9 (by decide) lk_X9_fixes_49 rfl rfl ?_
        refine V_iload C dX9_fixes_25 rfl ?_
        refine V_aload_n C dX9_fixes_27 rfl ?_
        refine V_getR C 18 dX9_fixes_28 o9 rfl hin_X9_fixes_X9 (by decide) lk_X9_fixes_52 rfl rfl ?_
        refine V_iload C dX9_fixes_31 rfl ?_
        refine V_ialdJ C dX9_fixes_33 hM.2.2.2.2.2.2.2.2.1 (by first | assumption | decide) (by omega) ((zM_k (by decide)).trans e15) ?_
        refine V_iconst C dX9_fixes_34 ?_
        refine V_icmp_ne C 48 dX9_fixes_35 (by decide) (by omega) (by omega) (fun z2 => ?_) (fun z2 => ?_)
        · refine V_iload_n C dX9_fixes_48 rfl ?_
          refine V_i2l C dX9_fixes_49 ?_
          refine V_aload_n C dX9_fixes_50 rfl ?_
          refine V_iload C dX9_fixes_51 rfl ?_
          refine V_iconst C dX9_fixes_53 ?_
          refine V_callVD (nA := 2) C dX9_fixes_54 (m_of C.gp hM (by omega) 3 (by decide) rfl) gX9_fixes_X9_of rfl o9 rfl (by decide +kernel) rfl (by decide) (by decide) (Nat.le_of_ble_eq_true rfl) ⟨by omega, by omega⟩ rfl ?_
          refine V_i2l C dX9_fixes_57 ?_
          refine V_lmul C dX9_fixes_58 ?_
          refine V_lload C dX9_fixes_59 rfl ?_
          refine V_ldiv C dX9_fixes_61 (I64_ne ⟨hw z2, by have := ho.2.1; omega⟩) ?_
          refine V_l2i C dX9_fixes_62 ?_
          rw [prt_eq ⟨ho.1.1, by have := ho.1.2; omega⟩ hc.2 ⟨hw z2, by have := ho.2.1; omega⟩, show rm * T 3 (chT T s j) / wt = fsh T Z s rm wt j by unfold fsh; rw [if_neg z2]]
          refine V_iastJ C dX9_fixes_63 hM.2.2.2.2.2.2.2.1 (by first | assumption | decide) (by omega) (zMu_k (by decide)) ?_
          exact tail
        · refine V_aload_n C dX9_fixes_38 rfl ?_
          refine V_iload_n C dX9_fixes_39 rfl ?_
          refine V_iload C dX9_fixes_40 rfl ?_
          refine V_callVD (nA := 2) C dX9_fixes_42 (m_least C.gp hM hB (by omega) hs (by omega)) gX9_fixes_X9_least rfl o9 rfl (by decide +kernel) rfl (by decide) (by decide) (Nat.le_of_ble_eq_true rfl) ⟨by omega, by omega⟩ rfl ?_
          rw [ltF_fx, show ltF T Z s (chT T s j) = fsh T Z s rm wt j by unfold fsh; rw [if_pos z2]]
          refine V_goto C 63 dX9_fixes_45 (by decide) ?_
          refine V_iastJ C dX9_fixes_63 hM.2.2.2.2.2.2.2.1 (by first | assumption | decide) (by omega) (zMu_k (by decide)) ?_
          exact tail
  refine V_iconst C dX9_fixes_0 ?_
  refine V_istore C dX9_fixes_1 rfl (by decide) ?_
  refine V_iconst C dX9_fixes_3 ?_
  refine V_istore C dX9_fixes_4 rfl (by decide) ?_
  have h := loop m 0 none (by omega)
  rw [show ((0 : Nat) : Int) = 0 from rfl, fxP_0] at h
  exact h
end M7
