/-! DockTree's own rows of numbers -/
def atF (mu : Mem) (row m : Nat) (i : Int) : Int := if 0 ≤ i ∧ i < m then mu row i else -1
def puF (mu : Mem) (row m : Nat) (i v : Int) : Mem := if 0 ≤ i ∧ i < m then up mu row i v else mu
theorem dX8_at_0 : decode cX8_at 0 = .ok (.aload_n 0, 1) := by decide +kernel
theorem dX8_at_1 : decode cX8_at 1 = .ok (.ifnull 19, 3) := by decide +kernel
theorem dX8_at_4 : decode cX8_at 4 = .ok (.iload_n 1, 1) := by decide +kernel
theorem dX8_at_5 : decode cX8_at 5 = .ok (.ifCond .lt 15, 3) := by decide +kernel
theorem dX8_at_8 : decode cX8_at 8 = .ok (.iload_n 1, 1) := by decide +kernel
theorem dX8_at_9 : decode cX8_at 9 = .ok (.aload_n 0, 1) := by decide +kernel
theorem dX8_at_10 : decode cX8_at 10 = .ok (.arraylength, 1) := by decide +kernel
theorem dX8_at_11 : decode cX8_at 11 = .ok (.if_icmp .ge 9, 3) := by decide +kernel
theorem dX8_at_14 : decode cX8_at 14 = .ok (.aload_n 0, 1) := by decide +kernel
theorem dX8_at_15 : decode cX8_at 15 = .ok (.iload_n 1, 1) := by decide +kernel
theorem dX8_at_16 : decode cX8_at 16 = .ok (.iaload, 1) := by decide +kernel
theorem dX8_at_17 : decode cX8_at 17 = .ok (.goto 4, 3) := by decide +kernel
theorem dX8_at_20 : decode cX8_at 20 = .ok (.iconst (-1), 1) := by decide +kernel
theorem dX8_at_21 : decode cX8_at 21 = .ok (.ireturn, 1) := by decide +kernel
theorem c_at {G : Gx} {l : Launch} (hG : GP G) {S : Sh} {n : Nat} {mu : Mem} {la : Lam} {row m : Nat} {i : Int} (hx : hasS S row (.inl (0, m))) (hm : m < 2147483648) (hi : -2147483648 ≤ i ∧ i ≤ 2147483647) :
    Ct G l yX8_at wsX8_at 0 0 0 [.ref row, .int (I32 i)] S n mu la (Dt (some (.int (I32 (atF mu row m i)))) S n mu la) := by
  refine Ct.ofV (cc := cX8_at) (nL := 2) (ret := (some .int)) [some (.ref row), some (.int (I32 i))] hG (by decide) rfl (Nat.le_of_ble_eq_true rfl) rfl ?_
  rintro X rfl rfl C hcl hsl E
  refine V_aload_n C dX8_at_0 rfl ?_
  refine V_ifnull C dX8_at_1 ?_
  refine V_iload_n C dX8_at_4 rfl ?_
  refine V_if_lt C 20 dX8_at_5 (by decide) (by omega) (fun h1 => ?_) (fun h1 => ?_)
  · refine V_iconst C dX8_at_20 ?_
    refine V_ireturn C E dX8_at_21 (by omega) (by omega) ?_
    rw [atF, if_neg (by omega)]; exact Dt_rfl
  · refine V_iload_n C dX8_at_8 rfl ?_
    refine V_aload_n C dX8_at_9 rfl ?_
    refine V_alen C dX8_at_10 hx ?_
    refine V_icmp_ge C 20 dX8_at_11 (by decide) (by omega) (by omega) (fun h2 => ?_) (fun h2 => ?_)
    · refine V_iconst C dX8_at_20 ?_
      refine V_ireturn C E dX8_at_21 (by omega) (by omega) ?_
      rw [atF, if_neg (by omega)]; exact Dt_rfl
    · refine V_aload_n C dX8_at_14 rfl ?_
      refine V_iload_n C dX8_at_15 rfl ?_
      refine V_iald C dX8_at_16 hx (by first | assumption | decide) (by omega) ?_
      refine V_goto C 21 dX8_at_17 (by decide) ?_
      refine V_ireturn C E dX8_at_21 (by omega) (by omega) ?_
      rw [atF, if_pos (by omega)]; exact Dt_rfl
theorem dX8_put_0 : decode cX8_put 0 = .ok (.aload_n 0, 1) := by decide +kernel
theorem dX8_put_1 : decode cX8_put 1 = .ok (.ifnull 17, 3) := by decide +kernel
theorem dX8_put_4 : decode cX8_put 4 = .ok (.iload_n 1, 1) := by decide +kernel
theorem dX8_put_5 : decode cX8_put 5 = .ok (.ifCond .lt 13, 3) := by decide +kernel
theorem dX8_put_8 : decode cX8_put 8 = .ok (.iload_n 1, 1) := by decide +kernel
theorem dX8_put_9 : decode cX8_put 9 = .ok (.aload_n 0, 1) := by decide +kernel
theorem dX8_put_10 : decode cX8_put 10 = .ok (.arraylength, 1) := by decide +kernel
theorem dX8_put_11 : decode cX8_put 11 = .ok (.if_icmp .ge 7, 3) := by decide +kernel
theorem dX8_put_14 : decode cX8_put 14 = .ok (.aload_n 0, 1) := by decide +kernel
theorem dX8_put_15 : decode cX8_put 15 = .ok (.iload_n 1, 1) := by decide +kernel
theorem dX8_put_16 : decode cX8_put 16 = .ok (.iload_n 2, 1) := by decide +kernel
theorem dX8_put_17 : decode cX8_put 17 = .ok (.iastore, 1) := by decide +kernel
theorem dX8_put_18 : decode cX8_put 18 = .ok (.return_, 1) := by decide +kernel
theorem c_put {G : Gx} {l : Launch} (hG : GP G) {S : Sh} {n : Nat} {mu : Mem} {la : Lam} {row m : Nat} {i v : Int} (hx : hasS S row (.inl (0, m))) (hm : m < 2147483648) (hi : -2147483648 ≤ i ∧ i ≤ 2147483647) :
    Ct G l yX8_put wsX8_put 0 0 0 [.ref row, .int (I32 i), .int (I32 v)] S n mu la (Dt none S n (puF mu row m i v) la) := by
  refine Ct.ofV (cc := cX8_put) (nL := 3) (ret := none) [some (.ref row), some (.int (I32 i)), some (.int (I32 v))] hG (by decide) rfl (Nat.le_of_ble_eq_true rfl) rfl ?_
  rintro X rfl rfl C hcl hsl E
  refine V_aload_n C dX8_put_0 rfl ?_
  refine V_ifnull C dX8_put_1 ?_
  refine V_iload_n C dX8_put_4 rfl ?_
  refine V_if_lt C 18 dX8_put_5 (by decide) (by omega) (fun h1 => ?_) (fun h1 => ?_)
  · refine V_return C E dX8_put_18 (by omega) (by omega) ?_
    rw [puF, if_neg (by omega)]; exact Dt_rfl
  · refine V_iload_n C dX8_put_8 rfl ?_
    refine V_aload_n C dX8_put_9 rfl ?_
    refine V_alen C dX8_put_10 hx ?_
    refine V_icmp_ge C 18 dX8_put_11 (by decide) (by omega) (by omega) (fun h2 => ?_) (fun h2 => ?_)
    · refine V_return C E dX8_put_18 (by omega) (by omega) ?_
      rw [puF, if_neg (by omega)]; exact Dt_rfl
    · refine V_aload_n C dX8_put_14 rfl ?_
      refine V_iload_n C dX8_put_15 rfl ?_
      refine V_iload_n C dX8_put_16 rfl ?_
      refine V_iast C dX8_put_17 hx (by first | assumption | decide) (by omega) ?_
      refine V_return C E dX8_put_18 (by omega) (by omega) ?_
      rw [puF, if_pos (by omega)]; exact Dt_rfl
theorem dX8_copyRow_0 : decode cX8_copyRow 0 = .ok (.aload_n 0, 1) := by decide +kernel
theorem dX8_copyRow_1 : decode cX8_copyRow 1 = .ok (.ifnull 21, 3) := by decide +kernel
theorem dX8_copyRow_4 : decode cX8_copyRow 4 = .ok (.aload_n 1, 1) := by decide +kernel
theorem dX8_copyRow_5 : decode cX8_copyRow 5 = .ok (.ifnull 17, 3) := by decide +kernel
theorem dX8_copyRow_8 : decode cX8_copyRow 8 = .ok (.aload_n 0, 1) := by decide +kernel
theorem dX8_copyRow_9 : decode cX8_copyRow 9 = .ok (.iconst 0, 1) := by decide +kernel
theorem dX8_copyRow_10 : decode cX8_copyRow 10 = .ok (.aload_n 1, 1) := by decide +kernel
theorem dX8_copyRow_11 : decode cX8_copyRow 11 = .ok (.iconst 0, 1) := by decide +kernel
theorem dX8_copyRow_12 : decode cX8_copyRow 12 = .ok (.aload_n 0, 1) := by decide +kernel
theorem dX8_copyRow_13 : decode cX8_copyRow 13 = .ok (.arraylength, 1) := by decide +kernel
theorem dX8_copyRow_14 : decode cX8_copyRow 14 = .ok (.aload_n 1, 1) := by decide +kernel
theorem dX8_copyRow_15 : decode cX8_copyRow 15 = .ok (.arraylength, 1) := by decide +kernel
theorem dX8_copyRow_16 : decode cX8_copyRow 16 = .ok (.invokestatic 377, 3) := by decide +kernel
theorem dX8_copyRow_19 : decode cX8_copyRow 19 = .ok (.invokestatic 382, 3) := by decide +kernel
theorem dX8_copyRow_22 : decode cX8_copyRow 22 = .ok (.return_, 1) := by decide +kernel
theorem c_copyRow {G : Gx} {l : Launch} (hG : GP G) {S : Sh} {n : Nat} {mu : Mem} {la : Lam} {a b m : Nat} (ha : hasS S a (.inl (0, m))) (hb : hasS S b (.inl (0, m))) (hm : m < 2147483648) :
    Ct G l yX8_copyRow wsX8_copyRow 1 0 0 [.ref a, .ref b] S n mu la (Dt none S n (cpF mu a b m) la) := by
  refine Ct.ofV (cc := cX8_copyRow) (nL := 2) (ret := none) [some (.ref a), some (.ref b)] hG (by decide) rfl (Nat.le_of_ble_eq_true rfl) rfl ?_
  rintro X rfl rfl C hcl hsl E
  refine V_aload_n C dX8_copyRow_0 rfl ?_
  refine V_ifnull C dX8_copyRow_1 ?_
  refine V_aload_n C dX8_copyRow_4 rfl ?_
  refine V_ifnull C dX8_copyRow_5 ?_
  refine V_aload_n C dX8_copyRow_8 rfl ?_
  refine V_iconst C dX8_copyRow_9 ?_
  refine V_aload_n C dX8_copyRow_10 rfl ?_
  refine V_iconst C dX8_copyRow_11 ?_
  refine V_aload_n C dX8_copyRow_12 rfl ?_
  refine V_alen C dX8_copyRow_13 ha ?_
  refine V_aload_n C dX8_copyRow_14 rfl ?_
  refine V_alen C dX8_copyRow_15 hb ?_
  refine V_mmin C dX8_copyRow_16 (by decide +kernel) (by decide +kernel) (by decide +kernel) (by decide +kernel) (by decide) (Nat.le_of_ble_eq_true rfl) ⟨by omega, by omega⟩ (by omega) (by omega) ?_
  rw [Int.min_self]
  refine V_copy C dX8_copyRow_19 (by decide +kernel) (by decide +kernel) (by decide +kernel) (by decide +kernel) (by decide) (Nat.le_of_ble_eq_true rfl) ha hb hm ?_
  refine V_return C E dX8_copyRow_22 (by omega) (by omega) ?_
  exact Dt_rfl
