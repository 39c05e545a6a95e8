/-! A LAYOUT: eight rows behind its object. In the mathematics a layout is a function of the row (0 who holds, 1 place, 2 count, 3 weight, 4 active, 5 axis, 6 start, 7 size) and the index. -/
def llen : Nat → Nat
  | 0 => 49
  | 1 => 49
  | 2 => 49
  | 3 => 49
  | 4 => 16
  | 5 => 16
  | _ => 32
def aL (L : Mem) (k : Nat) (i : Int) : Int := atF L k (llen k) i
def pL (L : Mem) (k : Nat) (i v : Int) : Mem := puF L k (llen k) i v
def layOf (mu : Mem) (b : Nat) : Mem := fun k i => mu (b + 1 + k) i
def putL (mu : Mem) (b : Nat) (L : Mem) : Mem := fun a i => if b + 1 ≤ a ∧ a ≤ b + 8 then L (a - (b + 1)) i else mu a i
def LayS (S : Sh) (b : Nat) : Prop := hasS S b (.inr (.inr (2, [.inl (.ref (b + 1)), .inl (.ref (b + 2)), .inl (.ref (b + 3)), .inl (.ref (b + 4)), .inl (.ref (b + 5)), .inl (.ref (b + 6)), .inl (.ref (b + 7)), .inl (.ref (b + 8))]))) ∧ ∀ k, k ≤ 7 → hasS S (b + 1 + k) (.inl (0, llen k))
def Bd (N : Int) (L : Mem) : Prop := ∀ k i, -N ≤ L k i ∧ L k i ≤ N
theorem llen_lt (k : Nat) : llen k < 2147483648 := by
  unfold llen; split <;> decide
theorem putL_get {mu L : Mem} {b k : Nat} (hk : k ≤ 7) (i : Int) : putL mu b L (b + 1 + k) i = L k i := by
  unfold putL
  rw [if_pos (by omega), show b + 1 + k - (b + 1) = k by omega]
theorem atF_putL {mu L : Mem} {b k m : Nat} (hk : k ≤ 7) (i : Int) : atF (putL mu b L) (b + 1 + k) m i = atF L k m i := by
  unfold atF
  rw [putL_get hk]
theorem puF_putL {mu L : Mem} {b k m : Nat} (hk : k ≤ 7) (i v : Int) : puF (putL mu b L) (b + 1 + k) m i v = putL mu b (puF L k m i v) := by
  funext a j
  unfold puF
  split
  · unfold up putL
    by_cases h : a = b + 1 + k
    · subst h
      simp only [true_and]
      rw [if_pos (show b + 1 ≤ b + 1 + k ∧ b + 1 + k ≤ b + 8 by omega), if_pos (show b + 1 ≤ b + 1 + k ∧ b + 1 + k ≤ b + 8 by omega), show b + 1 + k - (b + 1) = k by omega]
      simp only [true_and]
    · simp only [h, false_and, if_false]
      split
      · rw [if_neg (by omega)]
      · rfl
  · rfl
theorem putL_self (mu : Mem) (b : Nat) : putL mu b (layOf mu b) = mu := by
  funext a i
  unfold putL layOf
  split
  · rw [show b + 1 + (a - (b + 1)) = a by omega]
  · rfl
theorem putL_off {mu L : Mem} {b a : Nat} (h : a < b + 1 ∨ b + 8 < a) (i : Int) : putL mu b L a i = mu a i := by
  unfold putL
  rw [if_neg (by omega)]
theorem layOf_off {mu L : Mem} {b c : Nat} (h : c + 8 < b + 1 ∨ b + 8 < c + 1) {k : Nat} (hk : k ≤ 7) (i : Int) : layOf (putL mu b L) c k i = layOf mu c k i := putL_off (by omega) i
theorem putL_putL (mu L L' : Mem) (b : Nat) : putL (putL mu b L) b L' = putL mu b L' := by
  funext a i
  unfold putL
  split <;> rfl
theorem atF_in {mu : Mem} {a m : Nat} {i : Int} (h : 0 ≤ i ∧ i < m) : atF mu a m i = mu a i := by rw [atF, if_pos h]
theorem aL_in {L : Mem} {k : Nat} {i : Int} (h : 0 ≤ i ∧ i < llen k) : aL L k i = L k i := atF_in h
theorem aL_pL_ne {L : Mem} {k k' : Nat} (h : k ≠ k') (i v j : Int) : aL (pL L k' i v) k j = aL L k j := by
  unfold aL pL atF puF
  split
  · split
    · exact up_a _ _ _ _ h
    · rfl
  · rfl
theorem aL_bd {N : Int} {L : Mem} (h : Bd N L) (hN : 1 ≤ N) (k : Nat) (i : Int) : -N ≤ aL L k i ∧ aL L k i ≤ N := by
  unfold aL atF
  split
  · exact h k i
  · omega
theorem pL_bd {N : Int} {L : Mem} (h : Bd N L) (k : Nat) (i : Int) {v : Int} (hv : -N ≤ v ∧ v ≤ N) : Bd N (pL L k i v) := by
  intro k' j
  unfold pL puF
  split
  · unfold up
    split
    · exact hv
    · exact h k' j
  · exact h k' j
theorem Bd.mono {N N' : Int} {L : Mem} (h : Bd N L) (hN : N ≤ N') : Bd N' L := fun k i => by have := h k i; omega
def insP (L : Mem) (h i j : Int) : Mem := fun k o => if k = 1 ∧ 0 ≤ o ∧ o < j ∧ L 0 o = h ∧ i ≤ L 1 o then L 1 o + 1 else L k o
def remP (L : Mem) (h g j : Int) : Mem := fun k o => if k = 1 ∧ 0 ≤ o ∧ o < j ∧ L 0 o = h ∧ g < L 1 o then L 1 o - 1 else L k o
theorem insP_0 (L : Mem) (h i : Int) : insP L h i 0 = L := by
  funext k o
  unfold insP
  rw [if_neg (by omega)]
theorem remP_0 (L : Mem) (h i : Int) : remP L h i 0 = L := by
  funext k o
  unfold remP
  rw [if_neg (by omega)]
theorem insP_k (L : Mem) (h i j o : Int) {k : Nat} (hk : k ≠ 1) : insP L h i j k o = L k o := by
  unfold insP
  rw [if_neg (by omega)]
theorem insP_hi (L : Mem) (h i j o : Int) (ho : j ≤ o) (k : Nat) : insP L h i j k o = L k o := by
  unfold insP
  rw [if_neg (by omega)]
theorem remP_k (L : Mem) (h i j o : Int) {k : Nat} (hk : k ≠ 1) : remP L h i j k o = L k o := by
  unfold remP
  rw [if_neg (by omega)]
theorem remP_hi (L : Mem) (h i j o : Int) (ho : j ≤ o) (k : Nat) : remP L h i j k o = L k o := by
  unfold remP
  rw [if_neg (by omega)]
theorem insP_no {L : Mem} {h i j : Int} (hn : ¬ (L 0 j = h ∧ i ≤ L 1 j)) : insP L h i j = insP L h i (j + 1) := by
  funext k o
  unfold insP
  by_cases ho : o = j
  · subst ho
    rw [if_neg (by omega), if_neg (by omega)]
  · by_cases hc : k = 1 ∧ 0 ≤ o ∧ o < j ∧ L 0 o = h ∧ i ≤ L 1 o
    · rw [if_pos hc, if_pos (by omega)]
    · rw [if_neg hc, if_neg (by omega)]
theorem remP_no {L : Mem} {h i j : Int} (hn : ¬ (L 0 j = h ∧ i < L 1 j)) : remP L h i j = remP L h i (j + 1) := by
  funext k o
  unfold remP
  by_cases ho : o = j
  · subst ho
    rw [if_neg (by omega), if_neg (by omega)]
  · by_cases hc : k = 1 ∧ 0 ≤ o ∧ o < j ∧ L 0 o = h ∧ i < L 1 o
    · rw [if_pos hc, if_pos (by omega)]
    · rw [if_neg hc, if_neg (by omega)]
theorem insP_yes {L : Mem} {h i j : Int} (hj : 0 ≤ j ∧ j < 49) (h0 : L 0 j = h) (h1 : i ≤ L 1 j) : pL (insP L h i j) 1 j (L 1 j + 1) = insP L h i (j + 1) := by
  funext k o
  unfold pL puF
  rw [if_pos (show 0 ≤ j ∧ j < ((llen 1 : Nat) : Int) from hj)]
  unfold up insP
  by_cases ho : k = 1 ∧ o = j
  · rw [if_pos ho, if_pos (by rw [ho.2]; omega), ho.2]
  · rw [if_neg ho]
    by_cases hc : k = 1 ∧ 0 ≤ o ∧ o < j ∧ L 0 o = h ∧ i ≤ L 1 o
    · rw [if_pos hc, if_pos (by omega)]
    · rw [if_neg hc, if_neg (by omega)]
theorem remP_yes {L : Mem} {h i j : Int} (hj : 0 ≤ j ∧ j < 49) (h0 : L 0 j = h) (h1 : i < L 1 j) : pL (remP L h i j) 1 j (L 1 j - 1) = remP L h i (j + 1) := by
  funext k o
  unfold pL puF
  rw [if_pos (show 0 ≤ j ∧ j < ((llen 1 : Nat) : Int) from hj)]
  unfold up remP
  by_cases ho : k = 1 ∧ o = j
  · rw [if_pos ho, if_pos (by rw [ho.2]; omega), ho.2]
  · rw [if_neg ho]
    by_cases hc : k = 1 ∧ 0 ≤ o ∧ o < j ∧ L 0 o = h ∧ i < L 1 o
    · rw [if_pos hc, if_pos (by omega)]
    · rw [if_neg hc, if_neg (by omega)]
theorem insP_bd {N : Int} {L : Mem} (h : Bd N L) (a b c : Int) : Bd (N + 1) (insP L a b c) := by
  intro k o
  have h1 := h 1 o
  have h2 := h k o
  unfold insP
  split <;> omega
theorem remP_bd {N : Int} {L : Mem} (h : Bd N L) (a b c : Int) : Bd (N + 1) (remP L a b c) := by
  intro k o
  have h1 := h 1 o
  have h2 := h k o
  unfold remP
  split <;> omega
section LC
variable {G : Gx} {l : Launch} {S : Sh} {n : Nat} {mu : Mem} {la : Lam} {b : Nat} {L : Mem} {N : Int}
theorem c_aL (hG : GP G) (hL : LayS S b) (k m : Nat) (hk : k ≤ 7) (hm : llen k = m) {i : Int} (hi : -2147483648 ≤ i ∧ i ≤ 2147483647) :
    Ct G l yX8_at wsX8_at 0 0 0 [.ref (b + 1 + k), .int (I32 i)] S n (putL mu b L) la (Dt (some (.int (I32 (aL L k i)))) S n (putL mu b L) la) := by
  have h := c_at (l := l) (n := n) (la := la) (mu := putL mu b L) hG (hL.2 k hk) (llen_lt k) hi
  rw [atF_putL hk] at h
  exact h
theorem c_pL (hG : GP G) (hL : LayS S b) (k : Nat) (hk : k ≤ 7) {i v : Int} (hi : -2147483648 ≤ i ∧ i ≤ 2147483647) :
    Ct G l yX8_put wsX8_put 0 0 0 [.ref (b + 1 + k), .int (I32 i), .int (I32 v)] S n (putL mu b L) la (Dt none S n (putL mu b (pL L k i v)) la) := by
  have h := c_put (l := l) (n := n) (la := la) (mu := putL mu b L) (v := v) hG (hL.2 k hk) (llen_lt k) hi
  rw [puF_putL hk] at h
  exact h
set_option maxRecDepth 20000 in
theorem ggX4_holderOf_X8_at : GoodIn wsX4_holderOf wsX8_at := goodIn_r _ [4] (by decide +kernel) (by decide +kernel)
set_option maxRecDepth 20000 in
theorem gX4_holderOf_X8_at_n46 : GoodIn wsX4_holderOf (wsX8_at) := ggX4_holderOf_X8_at
theorem dX4_holderOf_0 : decode cX4_holderOf 0 = .ok (.aload_n 0, 1) := by decide +kernel
theorem dX4_holderOf_1 : decode cX4_holderOf 1 = .ok (.getfield 9, 3) := by decide +kernel
theorem dX4_holderOf_4 : decode cX4_holderOf 4 = .ok (.iload_n 1, 1) := by decide +kernel
theorem dX4_holderOf_5 : decode cX4_holderOf 5 = .ok (.invokestatic 46, 3) := by decide +kernel
theorem dX4_holderOf_8 : decode cX4_holderOf 8 = .ok (.ireturn, 1) := by decide +kernel
theorem hin_X4_holderOf_X4 : ∀ w ∈ wsX40, w ∈ wsX4_holderOf := by decide +kernel
theorem lk_X4_holderOf_9 : Cond.fieldLink RX4 9 RX4 "holder" "[I" ∈ wsX4_holderOf := by decide +kernel
theorem c_holderOf (hG : GP G) (hL : LayS S b) {t : Int} (ht : -1073741824 ≤ t ∧ t ≤ 1073741824) : Ct G l yX4_holderOf wsX4_holderOf 1 0 0 [.ref b, .int (I32 t)] S n (putL mu b L) la (Dt (some (.int (I32 (aL L 0 t)))) S n (putL mu b L) la) := by
  have o4 := hL.1
  refine Ct.ofV (cc := cX4_holderOf) (nL := 2) (ret := (some .int)) [some (.ref b), some (.int (I32 t))] hG (by decide) rfl (Nat.le_of_ble_eq_true rfl) rfl ?_
  rintro X rfl rfl C hcl hsl E
  refine V_aload_n C dX4_holderOf_0 rfl ?_
  refine V_getR C 0 dX4_holderOf_1 o4 rfl hin_X4_holderOf_X4 (by decide) lk_X4_holderOf_9 rfl rfl ?_
  refine V_iload_n C dX4_holderOf_4 rfl ?_
  refine V_callSND (nA := 2) (host := "DockTree") C dX4_holderOf_5 (c_aL C.gp hL 0 _ (by decide) rfl (by omega)) gX4_holderOf_X8_at_n46 (by decide +kernel) (by decide +kernel) (by decide +kernel) rfl (by decide +kernel) rfl (by decide) (by decide) (Nat.le_of_ble_eq_true rfl) ⟨by omega, by omega⟩ rfl ?_
  refine V_ireturn C E dX4_holderOf_8 (by omega) (by omega) ?_
  exact Dt_rfl
set_option maxRecDepth 20000 in
theorem ggX4_placeOf_X8_at : GoodIn wsX4_placeOf wsX8_at := goodIn_r _ [4] (by decide +kernel) (by decide +kernel)
set_option maxRecDepth 20000 in
theorem gX4_placeOf_X8_at_n46 : GoodIn wsX4_placeOf (wsX8_at) := ggX4_placeOf_X8_at
theorem dX4_placeOf_0 : decode cX4_placeOf 0 = .ok (.aload_n 0, 1) := by decide +kernel
theorem dX4_placeOf_1 : decode cX4_placeOf 1 = .ok (.getfield 15, 3) := by decide +kernel
theorem dX4_placeOf_4 : decode cX4_placeOf 4 = .ok (.iload_n 1, 1) := by decide +kernel
theorem dX4_placeOf_5 : decode cX4_placeOf 5 = .ok (.invokestatic 46, 3) := by decide +kernel
theorem dX4_placeOf_8 : decode cX4_placeOf 8 = .ok (.ireturn, 1) := by decide +kernel
theorem hin_X4_placeOf_X4 : ∀ w ∈ wsX40, w ∈ wsX4_placeOf := by decide +kernel
theorem lk_X4_placeOf_15 : Cond.fieldLink RX4 15 RX4 "place" "[I" ∈ wsX4_placeOf := by decide +kernel
theorem c_placeOf (hG : GP G) (hL : LayS S b) {t : Int} (ht : -1073741824 ≤ t ∧ t ≤ 1073741824) : Ct G l yX4_placeOf wsX4_placeOf 1 0 0 [.ref b, .int (I32 t)] S n (putL mu b L) la (Dt (some (.int (I32 (aL L 1 t)))) S n (putL mu b L) la) := by
  have o4 := hL.1
  refine Ct.ofV (cc := cX4_placeOf) (nL := 2) (ret := (some .int)) [some (.ref b), some (.int (I32 t))] hG (by decide) rfl (Nat.le_of_ble_eq_true rfl) rfl ?_
  rintro X rfl rfl C hcl hsl E
  refine V_aload_n C dX4_placeOf_0 rfl ?_
  refine V_getR C 1 dX4_placeOf_1 o4 rfl hin_X4_placeOf_X4 (by decide) lk_X4_placeOf_15 rfl rfl ?_
  refine V_iload_n C dX4_placeOf_4 rfl ?_
  refine V_callSND (nA := 2) (host := "DockTree") C dX4_placeOf_5 (c_aL C.gp hL 1 _ (by decide) rfl (by omega)) gX4_placeOf_X8_at_n46 (by decide +kernel) (by decide +kernel) (by decide +kernel) rfl (by decide +kernel) rfl (by decide) (by decide) (Nat.le_of_ble_eq_true rfl) ⟨by omega, by omega⟩ rfl ?_
  refine V_ireturn C E dX4_placeOf_8 (by omega) (by omega) ?_
  exact Dt_rfl
set_option maxRecDepth 20000 in
theorem ggX4_countOf_X8_at : GoodIn wsX4_countOf wsX8_at := goodIn_r _ [4] (by decide +kernel) (by decide +kernel)
set_option maxRecDepth 20000 in
theorem gX4_countOf_X8_at_n46 : GoodIn wsX4_countOf (wsX8_at) := ggX4_countOf_X8_at
theorem dX4_countOf_0 : decode cX4_countOf 0 = .ok (.aload_n 0, 1) := by decide +kernel
theorem dX4_countOf_1 : decode cX4_countOf 1 = .ok (.getfield 18, 3) := by decide +kernel
theorem dX4_countOf_4 : decode cX4_countOf 4 = .ok (.iload_n 1, 1) := by decide +kernel
theorem dX4_countOf_5 : decode cX4_countOf 5 = .ok (.invokestatic 46, 3) := by decide +kernel
theorem dX4_countOf_8 : decode cX4_countOf 8 = .ok (.ireturn, 1) := by decide +kernel
theorem hin_X4_countOf_X4 : ∀ w ∈ wsX40, w ∈ wsX4_countOf := by decide +kernel
theorem lk_X4_countOf_18 : Cond.fieldLink RX4 18 RX4 "count" "[I" ∈ wsX4_countOf := by decide +kernel
theorem c_countOf (hG : GP G) (hL : LayS S b) {t : Int} (ht : -1073741824 ≤ t ∧ t ≤ 1073741824) : Ct G l yX4_countOf wsX4_countOf 1 0 0 [.ref b, .int (I32 t)] S n (putL mu b L) la (Dt (some (.int (I32 (aL L 2 t)))) S n (putL mu b L) la) := by
  have o4 := hL.1
  refine Ct.ofV (cc := cX4_countOf) (nL := 2) (ret := (some .int)) [some (.ref b), some (.int (I32 t))] hG (by decide) rfl (Nat.le_of_ble_eq_true rfl) rfl ?_
  rintro X rfl rfl C hcl hsl E
  refine V_aload_n C dX4_countOf_0 rfl ?_
  refine V_getR C 2 dX4_countOf_1 o4 rfl hin_X4_countOf_X4 (by decide) lk_X4_countOf_18 rfl rfl ?_
  refine V_iload_n C dX4_countOf_4 rfl ?_
  refine V_callSND (nA := 2) (host := "DockTree") C dX4_countOf_5 (c_aL C.gp hL 2 _ (by decide) rfl (by omega)) gX4_countOf_X8_at_n46 (by decide +kernel) (by decide +kernel) (by decide +kernel) rfl (by decide +kernel) rfl (by decide) (by decide) (Nat.le_of_ble_eq_true rfl) ⟨by omega, by omega⟩ rfl ?_
  refine V_ireturn C E dX4_countOf_8 (by omega) (by omega) ?_
  exact Dt_rfl
set_option maxRecDepth 20000 in
theorem ggX4_weightOf_X8_at : GoodIn wsX4_weightOf wsX8_at := goodIn_r _ [4] (by decide +kernel) (by decide +kernel)
set_option maxRecDepth 20000 in
theorem gX4_weightOf_X8_at_n46 : GoodIn wsX4_weightOf (wsX8_at) := ggX4_weightOf_X8_at
theorem dX4_weightOf_0 : decode cX4_weightOf 0 = .ok (.aload_n 0, 1) := by decide +kernel
theorem dX4_weightOf_1 : decode cX4_weightOf 1 = .ok (.getfield 21, 3) := by decide +kernel
theorem dX4_weightOf_4 : decode cX4_weightOf 4 = .ok (.iload_n 1, 1) := by decide +kernel
theorem dX4_weightOf_5 : decode cX4_weightOf 5 = .ok (.invokestatic 46, 3) := by decide +kernel
theorem dX4_weightOf_8 : decode cX4_weightOf 8 = .ok (.ireturn, 1) := by decide +kernel
theorem hin_X4_weightOf_X4 : ∀ w ∈ wsX40, w ∈ wsX4_weightOf := by decide +kernel
theorem lk_X4_weightOf_21 : Cond.fieldLink RX4 21 RX4 "weight" "[I" ∈ wsX4_weightOf := by decide +kernel
theorem c_weightOf (hG : GP G) (hL : LayS S b) {t : Int} (ht : -1073741824 ≤ t ∧ t ≤ 1073741824) : Ct G l yX4_weightOf wsX4_weightOf 1 0 0 [.ref b, .int (I32 t)] S n (putL mu b L) la (Dt (some (.int (I32 (aL L 3 t)))) S n (putL mu b L) la) := by
  have o4 := hL.1
  refine Ct.ofV (cc := cX4_weightOf) (nL := 2) (ret := (some .int)) [some (.ref b), some (.int (I32 t))] hG (by decide) rfl (Nat.le_of_ble_eq_true rfl) rfl ?_
  rintro X rfl rfl C hcl hsl E
  refine V_aload_n C dX4_weightOf_0 rfl ?_
  refine V_getR C 3 dX4_weightOf_1 o4 rfl hin_X4_weightOf_X4 (by decide) lk_X4_weightOf_21 rfl rfl ?_
  refine V_iload_n C dX4_weightOf_4 rfl ?_
  refine V_callSND (nA := 2) (host := "DockTree") C dX4_weightOf_5 (c_aL C.gp hL 3 _ (by decide) rfl (by omega)) gX4_weightOf_X8_at_n46 (by decide +kernel) (by decide +kernel) (by decide +kernel) rfl (by decide +kernel) rfl (by decide) (by decide) (Nat.le_of_ble_eq_true rfl) ⟨by omega, by omega⟩ rfl ?_
  refine V_ireturn C E dX4_weightOf_8 (by omega) (by omega) ?_
  exact Dt_rfl
set_option maxRecDepth 20000 in
theorem ggX4_activeOf_X8_at : GoodIn wsX4_activeOf wsX8_at := goodIn_r _ [4] (by decide +kernel) (by decide +kernel)
set_option maxRecDepth 20000 in
theorem gX4_activeOf_X8_at_n46 : GoodIn wsX4_activeOf (wsX8_at) := ggX4_activeOf_X8_at
theorem dX4_activeOf_0 : decode cX4_activeOf 0 = .ok (.aload_n 0, 1) := by decide +kernel
theorem dX4_activeOf_1 : decode cX4_activeOf 1 = .ok (.getfield 24, 3) := by decide +kernel
theorem dX4_activeOf_4 : decode cX4_activeOf 4 = .ok (.iload_n 1, 1) := by decide +kernel
theorem dX4_activeOf_5 : decode cX4_activeOf 5 = .ok (.bipush 16, 2) := by decide +kernel
theorem dX4_activeOf_7 : decode cX4_activeOf 7 = .ok (.isub, 1) := by decide +kernel
theorem dX4_activeOf_8 : decode cX4_activeOf 8 = .ok (.invokestatic 46, 3) := by decide +kernel
theorem dX4_activeOf_11 : decode cX4_activeOf 11 = .ok (.ireturn, 1) := by decide +kernel
theorem hin_X4_activeOf_X4 : ∀ w ∈ wsX40, w ∈ wsX4_activeOf := by decide +kernel
theorem lk_X4_activeOf_24 : Cond.fieldLink RX4 24 RX4 "active" "[I" ∈ wsX4_activeOf := by decide +kernel
theorem c_activeOf (hG : GP G) (hL : LayS S b) {t : Int} (ht : -1073741824 ≤ t ∧ t ≤ 1073741824) : Ct G l yX4_activeOf wsX4_activeOf 1 0 0 [.ref b, .int (I32 t)] S n (putL mu b L) la (Dt (some (.int (I32 (aL L 4 (t - 16))))) S n (putL mu b L) la) := by
  have o4 := hL.1
  refine Ct.ofV (cc := cX4_activeOf) (nL := 2) (ret := (some .int)) [some (.ref b), some (.int (I32 t))] hG (by decide) rfl (Nat.le_of_ble_eq_true rfl) rfl ?_
  rintro X rfl rfl C hcl hsl E
  refine V_aload_n C dX4_activeOf_0 rfl ?_
  refine V_getR C 4 dX4_activeOf_1 o4 rfl hin_X4_activeOf_X4 (by decide) lk_X4_activeOf_24 rfl rfl ?_
  refine V_iload_n C dX4_activeOf_4 rfl ?_
  refine V_bipush C dX4_activeOf_5 (by decide +kernel) ?_
  refine V_isub C dX4_activeOf_7 ?_
  refine V_callSND (nA := 2) (host := "DockTree") C dX4_activeOf_8 (c_aL C.gp hL 4 _ (by decide) rfl (by omega)) gX4_activeOf_X8_at_n46 (by decide +kernel) (by decide +kernel) (by decide +kernel) rfl (by decide +kernel) rfl (by decide) (by decide) (Nat.le_of_ble_eq_true rfl) ⟨by omega, by omega⟩ rfl ?_
  refine V_ireturn C E dX4_activeOf_11 (by omega) (by omega) ?_
  exact Dt_rfl
set_option maxRecDepth 20000 in
theorem ggX4_axisOf_X8_at : GoodIn wsX4_axisOf wsX8_at := goodIn_r _ [4] (by decide +kernel) (by decide +kernel)
set_option maxRecDepth 20000 in
theorem gX4_axisOf_X8_at_n46 : GoodIn wsX4_axisOf (wsX8_at) := ggX4_axisOf_X8_at
theorem dX4_axisOf_0 : decode cX4_axisOf 0 = .ok (.aload_n 0, 1) := by decide +kernel
theorem dX4_axisOf_1 : decode cX4_axisOf 1 = .ok (.getfield 27, 3) := by decide +kernel
theorem dX4_axisOf_4 : decode cX4_axisOf 4 = .ok (.iload_n 1, 1) := by decide +kernel
theorem dX4_axisOf_5 : decode cX4_axisOf 5 = .ok (.bipush 32, 2) := by decide +kernel
theorem dX4_axisOf_7 : decode cX4_axisOf 7 = .ok (.isub, 1) := by decide +kernel
theorem dX4_axisOf_8 : decode cX4_axisOf 8 = .ok (.invokestatic 46, 3) := by decide +kernel
theorem dX4_axisOf_11 : decode cX4_axisOf 11 = .ok (.ireturn, 1) := by decide +kernel
theorem hin_X4_axisOf_X4 : ∀ w ∈ wsX40, w ∈ wsX4_axisOf := by decide +kernel
theorem lk_X4_axisOf_27 : Cond.fieldLink RX4 27 RX4 "axis" "[I" ∈ wsX4_axisOf := by decide +kernel
theorem c_axisOf (hG : GP G) (hL : LayS S b) {t : Int} (ht : -1073741824 ≤ t ∧ t ≤ 1073741824) : Ct G l yX4_axisOf wsX4_axisOf 1 0 0 [.ref b, .int (I32 t)] S n (putL mu b L) la (Dt (some (.int (I32 (aL L 5 (t - 32))))) S n (putL mu b L) la) := by
  have o4 := hL.1
  refine Ct.ofV (cc := cX4_axisOf) (nL := 2) (ret := (some .int)) [some (.ref b), some (.int (I32 t))] hG (by decide) rfl (Nat.le_of_ble_eq_true rfl) rfl ?_
  rintro X rfl rfl C hcl hsl E
  refine V_aload_n C dX4_axisOf_0 rfl ?_
  refine V_getR C 5 dX4_axisOf_1 o4 rfl hin_X4_axisOf_X4 (by decide) lk_X4_axisOf_27 rfl rfl ?_
  refine V_iload_n C dX4_axisOf_4 rfl ?_
  refine V_bipush C dX4_axisOf_5 (by decide +kernel) ?_
  refine V_isub C dX4_axisOf_7 ?_
  refine V_callSND (nA := 2) (host := "DockTree") C dX4_axisOf_8 (c_aL C.gp hL 5 _ (by decide) rfl (by omega)) gX4_axisOf_X8_at_n46 (by decide +kernel) (by decide +kernel) (by decide +kernel) rfl (by decide +kernel) rfl (by decide) (by decide) (Nat.le_of_ble_eq_true rfl) ⟨by omega, by omega⟩ rfl ?_
  refine V_ireturn C E dX4_axisOf_11 (by omega) (by omega) ?_
  exact Dt_rfl
set_option maxRecDepth 20000 in
theorem ggX4_floatingStartOf_X8_at : GoodIn wsX4_floatingStartOf wsX8_at := goodIn_r _ [4] (by decide +kernel) (by decide +kernel)
set_option maxRecDepth 20000 in
theorem gX4_floatingStartOf_X8_at_n46 : GoodIn wsX4_floatingStartOf (wsX8_at) := ggX4_floatingStartOf_X8_at
theorem dX4_floatingStartOf_0 : decode cX4_floatingStartOf 0 = .ok (.aload_n 0, 1) := by decide +kernel
theorem dX4_floatingStartOf_1 : decode cX4_floatingStartOf 1 = .ok (.getfield 30, 3) := by decide +kernel
theorem dX4_floatingStartOf_4 : decode cX4_floatingStartOf 4 = .ok (.iconst 2, 1) := by decide +kernel
theorem dX4_floatingStartOf_5 : decode cX4_floatingStartOf 5 = .ok (.iload_n 1, 1) := by decide +kernel
theorem dX4_floatingStartOf_6 : decode cX4_floatingStartOf 6 = .ok (.bipush 16, 2) := by decide +kernel
theorem dX4_floatingStartOf_8 : decode cX4_floatingStartOf 8 = .ok (.isub, 1) := by decide +kernel
theorem dX4_floatingStartOf_9 : decode cX4_floatingStartOf 9 = .ok (.imul, 1) := by decide +kernel
theorem dX4_floatingStartOf_10 : decode cX4_floatingStartOf 10 = .ok (.iload_n 2, 1) := by decide +kernel
theorem dX4_floatingStartOf_11 : decode cX4_floatingStartOf 11 = .ok (.iadd, 1) := by decide +kernel
theorem dX4_floatingStartOf_12 : decode cX4_floatingStartOf 12 = .ok (.invokestatic 46, 3) := by decide +kernel
theorem dX4_floatingStartOf_15 : decode cX4_floatingStartOf 15 = .ok (.ireturn, 1) := by decide +kernel
theorem hin_X4_floatingStartOf_X4 : ∀ w ∈ wsX40, w ∈ wsX4_floatingStartOf := by decide +kernel
theorem lk_X4_floatingStartOf_30 : Cond.fieldLink RX4 30 RX4 "start" "[I" ∈ wsX4_floatingStartOf := by decide +kernel
theorem c_floatingStartOf (hG : GP G) (hL : LayS S b) {t x : Int} (ht : -536870912 ≤ t ∧ t ≤ 536870912) (hx : -1000 ≤ x ∧ x ≤ 1000) : Ct G l yX4_floatingStartOf wsX4_floatingStartOf 1 0 0 [.ref b, .int (I32 t), .int (I32 x)] S n (putL mu b L) la (Dt (some (.int (I32 (aL L 6 (2 * (t - 16) + x))))) S n (putL mu b L) la) := by
  have o4 := hL.1
  refine Ct.ofV (cc := cX4_floatingStartOf) (nL := 3) (ret := (some .int)) [some (.ref b), some (.int (I32 t)), some (.int (I32 x))] hG (by decide) rfl (Nat.le_of_ble_eq_true rfl) rfl ?_
  rintro X rfl rfl C hcl hsl E
  refine V_aload_n C dX4_floatingStartOf_0 rfl ?_
  refine V_getR C 6 dX4_floatingStartOf_1 o4 rfl hin_X4_floatingStartOf_X4 (by decide) lk_X4_floatingStartOf_30 rfl rfl ?_
  refine V_iconst C dX4_floatingStartOf_4 ?_
  refine V_iload_n C dX4_floatingStartOf_5 rfl ?_
  refine V_bipush C dX4_floatingStartOf_6 (by decide +kernel) ?_
  refine V_isub C dX4_floatingStartOf_8 ?_
  refine V_imul C dX4_floatingStartOf_9 ?_
  refine V_iload_n C dX4_floatingStartOf_10 rfl ?_
  refine V_iadd C dX4_floatingStartOf_11 ?_
  refine V_callSND (nA := 2) (host := "DockTree") C dX4_floatingStartOf_12 (c_aL C.gp hL 6 _ (by decide) rfl (by omega)) gX4_floatingStartOf_X8_at_n46 (by decide +kernel) (by decide +kernel) (by decide +kernel) rfl (by decide +kernel) rfl (by decide) (by decide) (Nat.le_of_ble_eq_true rfl) ⟨by omega, by omega⟩ rfl ?_
  refine V_ireturn C E dX4_floatingStartOf_15 (by omega) (by omega) ?_
  exact Dt_rfl
set_option maxRecDepth 20000 in
theorem ggX4_floatingSizeOf_X8_at : GoodIn wsX4_floatingSizeOf wsX8_at := goodIn_r _ [4] (by decide +kernel) (by decide +kernel)
set_option maxRecDepth 20000 in
theorem gX4_floatingSizeOf_X8_at_n46 : GoodIn wsX4_floatingSizeOf (wsX8_at) := ggX4_floatingSizeOf_X8_at
theorem dX4_floatingSizeOf_0 : decode cX4_floatingSizeOf 0 = .ok (.aload_n 0, 1) := by decide +kernel
theorem dX4_floatingSizeOf_1 : decode cX4_floatingSizeOf 1 = .ok (.getfield 33, 3) := by decide +kernel
theorem dX4_floatingSizeOf_4 : decode cX4_floatingSizeOf 4 = .ok (.iconst 2, 1) := by decide +kernel
theorem dX4_floatingSizeOf_5 : decode cX4_floatingSizeOf 5 = .ok (.iload_n 1, 1) := by decide +kernel
theorem dX4_floatingSizeOf_6 : decode cX4_floatingSizeOf 6 = .ok (.bipush 16, 2) := by decide +kernel
theorem dX4_floatingSizeOf_8 : decode cX4_floatingSizeOf 8 = .ok (.isub, 1) := by decide +kernel
theorem dX4_floatingSizeOf_9 : decode cX4_floatingSizeOf 9 = .ok (.imul, 1) := by decide +kernel
theorem dX4_floatingSizeOf_10 : decode cX4_floatingSizeOf 10 = .ok (.iload_n 2, 1) := by decide +kernel
theorem dX4_floatingSizeOf_11 : decode cX4_floatingSizeOf 11 = .ok (.iadd, 1) := by decide +kernel
theorem dX4_floatingSizeOf_12 : decode cX4_floatingSizeOf 12 = .ok (.invokestatic 46, 3) := by decide +kernel
theorem dX4_floatingSizeOf_15 : decode cX4_floatingSizeOf 15 = .ok (.ireturn, 1) := by decide +kernel
theorem hin_X4_floatingSizeOf_X4 : ∀ w ∈ wsX40, w ∈ wsX4_floatingSizeOf := by decide +kernel
theorem lk_X4_floatingSizeOf_33 : Cond.fieldLink RX4 33 RX4 "size" "[I" ∈ wsX4_floatingSizeOf := by decide +kernel
theorem c_floatingSizeOf (hG : GP G) (hL : LayS S b) {t x : Int} (ht : -536870912 ≤ t ∧ t ≤ 536870912) (hx : -1000 ≤ x ∧ x ≤ 1000) : Ct G l yX4_floatingSizeOf wsX4_floatingSizeOf 1 0 0 [.ref b, .int (I32 t), .int (I32 x)] S n (putL mu b L) la (Dt (some (.int (I32 (aL L 7 (2 * (t - 16) + x))))) S n (putL mu b L) la) := by
  have o4 := hL.1
  refine Ct.ofV (cc := cX4_floatingSizeOf) (nL := 3) (ret := (some .int)) [some (.ref b), some (.int (I32 t)), some (.int (I32 x))] hG (by decide) rfl (Nat.le_of_ble_eq_true rfl) rfl ?_
  rintro X rfl rfl C hcl hsl E
  refine V_aload_n C dX4_floatingSizeOf_0 rfl ?_
  refine V_getR C 7 dX4_floatingSizeOf_1 o4 rfl hin_X4_floatingSizeOf_X4 (by decide) lk_X4_floatingSizeOf_33 rfl rfl ?_
  refine V_iconst C dX4_floatingSizeOf_4 ?_
  refine V_iload_n C dX4_floatingSizeOf_5 rfl ?_
  refine V_bipush C dX4_floatingSizeOf_6 (by decide +kernel) ?_
  refine V_isub C dX4_floatingSizeOf_8 ?_
  refine V_imul C dX4_floatingSizeOf_9 ?_
  refine V_iload_n C dX4_floatingSizeOf_10 rfl ?_
  refine V_iadd C dX4_floatingSizeOf_11 ?_
  refine V_callSND (nA := 2) (host := "DockTree") C dX4_floatingSizeOf_12 (c_aL C.gp hL 7 _ (by decide) rfl (by omega)) gX4_floatingSizeOf_X8_at_n46 (by decide +kernel) (by decide +kernel) (by decide +kernel) rfl (by decide +kernel) rfl (by decide) (by decide) (Nat.le_of_ble_eq_true rfl) ⟨by omega, by omega⟩ rfl ?_
  refine V_ireturn C E dX4_floatingSizeOf_15 (by omega) (by omega) ?_
  exact Dt_rfl
set_option maxRecDepth 20000 in
theorem ggX4_changeWeight_X8_put : GoodIn wsX4_changeWeight wsX8_put := goodIn_r _ [4] (by decide +kernel) (by decide +kernel)
set_option maxRecDepth 20000 in
theorem gX4_changeWeight_X8_put_n50 : GoodIn wsX4_changeWeight (wsX8_put) := ggX4_changeWeight_X8_put
theorem dX4_changeWeight_0 : decode cX4_changeWeight 0 = .ok (.aload_n 0, 1) := by decide +kernel
theorem dX4_changeWeight_1 : decode cX4_changeWeight 1 = .ok (.getfield 21, 3) := by decide +kernel
theorem dX4_changeWeight_4 : decode cX4_changeWeight 4 = .ok (.iload_n 1, 1) := by decide +kernel
theorem dX4_changeWeight_5 : decode cX4_changeWeight 5 = .ok (.iload_n 2, 1) := by decide +kernel
theorem dX4_changeWeight_6 : decode cX4_changeWeight 6 = .ok (.invokestatic 50, 3) := by decide +kernel
theorem dX4_changeWeight_9 : decode cX4_changeWeight 9 = .ok (.return_, 1) := by decide +kernel
theorem hin_X4_changeWeight_X4 : ∀ w ∈ wsX40, w ∈ wsX4_changeWeight := by decide +kernel
theorem lk_X4_changeWeight_21 : Cond.fieldLink RX4 21 RX4 "weight" "[I" ∈ wsX4_changeWeight := by decide +kernel
theorem c_changeWeight (hG : GP G) (hL : LayS S b) {t v : Int} (ht : -1073741824 ≤ t ∧ t ≤ 1073741824) : Ct G l yX4_changeWeight wsX4_changeWeight 1 0 0 [.ref b, .int (I32 t), .int (I32 v)] S n (putL mu b L) la (Dt none S n (putL mu b (pL L 3 t v)) la) := by
  have o4 := hL.1
  refine Ct.ofV (cc := cX4_changeWeight) (nL := 3) (ret := none) [some (.ref b), some (.int (I32 t)), some (.int (I32 v))] hG (by decide) rfl (Nat.le_of_ble_eq_true rfl) rfl ?_
  rintro X rfl rfl C hcl hsl E
  refine V_aload_n C dX4_changeWeight_0 rfl ?_
  refine V_getR C 3 dX4_changeWeight_1 o4 rfl hin_X4_changeWeight_X4 (by decide) lk_X4_changeWeight_21 rfl rfl ?_
  refine V_iload_n C dX4_changeWeight_4 rfl ?_
  refine V_iload_n C dX4_changeWeight_5 rfl ?_
  refine V_callSND (nA := 3) (host := "DockTree") C dX4_changeWeight_6 (c_pL C.gp hL 3 (by decide) (by omega)) gX4_changeWeight_X8_put_n50 (by decide +kernel) (by decide +kernel) (by decide +kernel) rfl (by decide +kernel) rfl (by decide) (by decide) (Nat.le_of_ble_eq_true rfl) ⟨by omega, by omega⟩ rfl ?_
  refine V_return C E dX4_changeWeight_9 (by omega) (by omega) ?_
  exact Dt_rfl
set_option maxRecDepth 20000 in
theorem ggX4_changeActive_X8_put : GoodIn wsX4_changeActive wsX8_put := goodIn_r _ [4] (by decide +kernel) (by decide +kernel)
set_option maxRecDepth 20000 in
theorem gX4_changeActive_X8_put_n50 : GoodIn wsX4_changeActive (wsX8_put) := ggX4_changeActive_X8_put
theorem dX4_changeActive_0 : decode cX4_changeActive 0 = .ok (.aload_n 0, 1) := by decide +kernel
theorem dX4_changeActive_1 : decode cX4_changeActive 1 = .ok (.getfield 24, 3) := by decide +kernel
theorem dX4_changeActive_4 : decode cX4_changeActive 4 = .ok (.iload_n 1, 1) := by decide +kernel
theorem dX4_changeActive_5 : decode cX4_changeActive 5 = .ok (.bipush 16, 2) := by decide +kernel
theorem dX4_changeActive_7 : decode cX4_changeActive 7 = .ok (.isub, 1) := by decide +kernel
theorem dX4_changeActive_8 : decode cX4_changeActive 8 = .ok (.iload_n 2, 1) := by decide +kernel
theorem dX4_changeActive_9 : decode cX4_changeActive 9 = .ok (.invokestatic 50, 3) := by decide +kernel
theorem dX4_changeActive_12 : decode cX4_changeActive 12 = .ok (.return_, 1) := by decide +kernel
theorem hin_X4_changeActive_X4 : ∀ w ∈ wsX40, w ∈ wsX4_changeActive := by decide +kernel
theorem lk_X4_changeActive_24 : Cond.fieldLink RX4 24 RX4 "active" "[I" ∈ wsX4_changeActive := by decide +kernel
theorem c_changeActive (hG : GP G) (hL : LayS S b) {t v : Int} (ht : -1073741824 ≤ t ∧ t ≤ 1073741824) : Ct G l yX4_changeActive wsX4_changeActive 1 0 0 [.ref b, .int (I32 t), .int (I32 v)] S n (putL mu b L) la (Dt none S n (putL mu b (pL L 4 (t - 16) v)) la) := by
  have o4 := hL.1
  refine Ct.ofV (cc := cX4_changeActive) (nL := 3) (ret := none) [some (.ref b), some (.int (I32 t)), some (.int (I32 v))] hG (by decide) rfl (Nat.le_of_ble_eq_true rfl) rfl ?_
  rintro X rfl rfl C hcl hsl E
  refine V_aload_n C dX4_changeActive_0 rfl ?_
  refine V_getR C 4 dX4_changeActive_1 o4 rfl hin_X4_changeActive_X4 (by decide) lk_X4_changeActive_24 rfl rfl ?_
  refine V_iload_n C dX4_changeActive_4 rfl ?_
  refine V_bipush C dX4_changeActive_5 (by decide +kernel) ?_
  refine V_isub C dX4_changeActive_7 ?_
  refine V_iload_n C dX4_changeActive_8 rfl ?_
  refine V_callSND (nA := 3) (host := "DockTree") C dX4_changeActive_9 (c_pL C.gp hL 4 (by decide) (by omega)) gX4_changeActive_X8_put_n50 (by decide +kernel) (by decide +kernel) (by decide +kernel) rfl (by decide +kernel) rfl (by decide) (by decide) (Nat.le_of_ble_eq_true rfl) ⟨by omega, by omega⟩ rfl ?_
  refine V_return C E dX4_changeActive_12 (by omega) (by omega) ?_
  exact Dt_rfl
def sttF (L : Mem) (p : Int) : Int := if aL L 0 p = -1 then 0 else if aL L 0 (aL L 0 p) = 48 then 2 else 1
set_option maxRecDepth 20000 in
theorem ggX4_stateOf_X8_at : GoodIn wsX4_stateOf wsX8_at := goodIn_r _ [4] (by decide +kernel) (by decide +kernel)
set_option maxRecDepth 20000 in
theorem gX4_stateOf_X8_at_n46 : GoodIn wsX4_stateOf (wsX8_at) := ggX4_stateOf_X8_at
theorem dX4_stateOf_0 : decode cX4_stateOf 0 = .ok (.aload_n 0, 1) := by decide +kernel
theorem dX4_stateOf_1 : decode cX4_stateOf 1 = .ok (.getfield 9, 3) := by decide +kernel
theorem dX4_stateOf_4 : decode cX4_stateOf 4 = .ok (.iload_n 1, 1) := by decide +kernel
theorem dX4_stateOf_5 : decode cX4_stateOf 5 = .ok (.invokestatic 46, 3) := by decide +kernel
theorem dX4_stateOf_8 : decode cX4_stateOf 8 = .ok (.istore_n 2, 1) := by decide +kernel
theorem dX4_stateOf_9 : decode cX4_stateOf 9 = .ok (.iload_n 2, 1) := by decide +kernel
theorem dX4_stateOf_10 : decode cX4_stateOf 10 = .ok (.iconst (-1), 1) := by decide +kernel
theorem dX4_stateOf_11 : decode cX4_stateOf 11 = .ok (.if_icmp .ne 5, 3) := by decide +kernel
theorem dX4_stateOf_14 : decode cX4_stateOf 14 = .ok (.iconst 0, 1) := by decide +kernel
theorem dX4_stateOf_15 : decode cX4_stateOf 15 = .ok (.ireturn, 1) := by decide +kernel
theorem dX4_stateOf_16 : decode cX4_stateOf 16 = .ok (.aload_n 0, 1) := by decide +kernel
theorem dX4_stateOf_17 : decode cX4_stateOf 17 = .ok (.getfield 9, 3) := by decide +kernel
theorem dX4_stateOf_20 : decode cX4_stateOf 20 = .ok (.iload_n 2, 1) := by decide +kernel
theorem dX4_stateOf_21 : decode cX4_stateOf 21 = .ok (.invokestatic 46, 3) := by decide +kernel
theorem dX4_stateOf_24 : decode cX4_stateOf 24 = .ok (.bipush 48, 2) := by decide +kernel
theorem dX4_stateOf_26 : decode cX4_stateOf 26 = .ok (.if_icmp .ne 7, 3) := by decide +kernel
theorem dX4_stateOf_29 : decode cX4_stateOf 29 = .ok (.iconst 2, 1) := by decide +kernel
theorem dX4_stateOf_30 : decode cX4_stateOf 30 = .ok (.goto 4, 3) := by decide +kernel
theorem dX4_stateOf_33 : decode cX4_stateOf 33 = .ok (.iconst 1, 1) := by decide +kernel
theorem dX4_stateOf_34 : decode cX4_stateOf 34 = .ok (.ireturn, 1) := by decide +kernel
theorem hin_X4_stateOf_X4 : ∀ w ∈ wsX40, w ∈ wsX4_stateOf := by decide +kernel
theorem lk_X4_stateOf_9 : Cond.fieldLink RX4 9 RX4 "holder" "[I" ∈ wsX4_stateOf := by decide +kernel
theorem c_stateOf (hG : GP G) (hL : LayS S b) (hB : Bd N L) (hN : 1 ≤ N ∧ N ≤ 1073741824) {p : Int} (hp : -1073741824 ≤ p ∧ p ≤ 1073741824) : Ct G l yX4_stateOf wsX4_stateOf 1 0 0 [.ref b, .int (I32 p)] S n (putL mu b L) la (Dt (some (.int (I32 (sttF L p)))) S n (putL mu b L) la) := by
  have o4 := hL.1
  have b1 := aL_bd hB hN.1 0 p
  have b2 := aL_bd hB hN.1 0 (aL L 0 p)
  refine Ct.ofV (cc := cX4_stateOf) (nL := 3) (ret := (some .int)) [some (.ref b), some (.int (I32 p)), none] hG (by decide) rfl (Nat.le_of_ble_eq_true rfl) rfl ?_
  rintro X rfl rfl C hcl hsl E
  refine V_aload_n C dX4_stateOf_0 rfl ?_
  refine V_getR C 0 dX4_stateOf_1 o4 rfl hin_X4_stateOf_X4 (by decide) lk_X4_stateOf_9 rfl rfl ?_
  refine V_iload_n C dX4_stateOf_4 rfl ?_
  refine V_callSND (nA := 2) (host := "DockTree") C dX4_stateOf_5 (c_aL C.gp hL 0 _ (by decide) rfl (by omega)) gX4_stateOf_X8_at_n46 (by decide +kernel) (by decide +kernel) (by decide +kernel) rfl (by decide +kernel) rfl (by decide) (by decide) (Nat.le_of_ble_eq_true rfl) ⟨by omega, by omega⟩ rfl ?_
  refine V_istore_n C dX4_stateOf_8 rfl (by decide) ?_
  refine V_iload_n C dX4_stateOf_9 rfl ?_
  refine V_iconst C dX4_stateOf_10 ?_
  refine V_icmp_ne C 16 dX4_stateOf_11 (by decide) (by omega) (by omega) (fun h => ?_) (fun h => ?_)
  · refine V_aload_n C dX4_stateOf_16 rfl ?_
    refine V_getR C 0 dX4_stateOf_17 o4 rfl hin_X4_stateOf_X4 (by decide) lk_X4_stateOf_9 rfl rfl ?_
    refine V_iload_n C dX4_stateOf_20 rfl ?_
    refine V_callSND (nA := 2) (host := "DockTree") C dX4_stateOf_21 (c_aL C.gp hL 0 _ (by decide) rfl (by omega)) gX4_stateOf_X8_at_n46 (by decide +kernel) (by decide +kernel) (by decide +kernel) rfl (by decide +kernel) rfl (by decide) (by decide) (Nat.le_of_ble_eq_true rfl) ⟨by omega, by omega⟩ rfl ?_
    refine V_bipush C dX4_stateOf_24 (by decide +kernel) ?_
    refine V_icmp_ne C 33 dX4_stateOf_26 (by decide) (by omega) (by omega) (fun h2 => ?_) (fun h2 => ?_)
    · refine V_iconst C dX4_stateOf_33 ?_
      refine V_ireturn C E dX4_stateOf_34 (by omega) (by omega) ?_
      rw [sttF, if_neg h, if_neg h2]; exact Dt_rfl
    · refine V_iconst C dX4_stateOf_29 ?_
      refine V_goto C 34 dX4_stateOf_30 (by decide) ?_
      refine V_ireturn C E dX4_stateOf_34 (by omega) (by omega) ?_
      rw [sttF, if_neg h, if_pos h2]; exact Dt_rfl
  · refine V_iconst C dX4_stateOf_14 ?_
    refine V_ireturn C E dX4_stateOf_15 (by omega) (by omega) ?_
    rw [sttF, if_pos h]; exact Dt_rfl
def mbrG (L : Mem) (h i : Int) : Nat → Int
  | 0 => -1
  | m + 1 => if L 0 (48 - m) = h ∧ L 1 (48 - m) = i then 48 - m else mbrG L h i m
def mbrF (L : Mem) (h i : Int) : Int := mbrG L h i 49
set_option maxRecDepth 20000 in
theorem ggX4_memberAt_X8_at : GoodIn wsX4_memberAt wsX8_at := goodIn_r _ [5] (by decide +kernel) (by decide +kernel)
set_option maxRecDepth 20000 in
theorem gX4_memberAt_X8_at_n46 : GoodIn wsX4_memberAt (wsX8_at) := ggX4_memberAt_X8_at
theorem dX4_memberAt_0 : decode cX4_memberAt 0 = .ok (.iconst 0, 1) := by decide +kernel
theorem dX4_memberAt_1 : decode cX4_memberAt 1 = .ok (.istore_n 3, 1) := by decide +kernel
theorem dX4_memberAt_2 : decode cX4_memberAt 2 = .ok (.iload_n 3, 1) := by decide +kernel
theorem dX4_memberAt_3 : decode cX4_memberAt 3 = .ok (.bipush 49, 2) := by decide +kernel
theorem dX4_memberAt_5 : decode cX4_memberAt 5 = .ok (.if_icmp .ge 35, 3) := by decide +kernel
theorem dX4_memberAt_8 : decode cX4_memberAt 8 = .ok (.aload_n 0, 1) := by decide +kernel
theorem dX4_memberAt_9 : decode cX4_memberAt 9 = .ok (.getfield 9, 3) := by decide +kernel
theorem dX4_memberAt_12 : decode cX4_memberAt 12 = .ok (.iload_n 3, 1) := by decide +kernel
theorem dX4_memberAt_13 : decode cX4_memberAt 13 = .ok (.invokestatic 46, 3) := by decide +kernel
theorem dX4_memberAt_16 : decode cX4_memberAt 16 = .ok (.iload_n 1, 1) := by decide +kernel
theorem dX4_memberAt_17 : decode cX4_memberAt 17 = .ok (.if_icmp .ne 17, 3) := by decide +kernel
theorem dX4_memberAt_20 : decode cX4_memberAt 20 = .ok (.aload_n 0, 1) := by decide +kernel
theorem dX4_memberAt_21 : decode cX4_memberAt 21 = .ok (.getfield 15, 3) := by decide +kernel
theorem dX4_memberAt_24 : decode cX4_memberAt 24 = .ok (.iload_n 3, 1) := by decide +kernel
theorem dX4_memberAt_25 : decode cX4_memberAt 25 = .ok (.invokestatic 46, 3) := by decide +kernel
theorem dX4_memberAt_28 : decode cX4_memberAt 28 = .ok (.iload_n 2, 1) := by decide +kernel
theorem dX4_memberAt_29 : decode cX4_memberAt 29 = .ok (.if_icmp .ne 5, 3) := by decide +kernel
theorem dX4_memberAt_32 : decode cX4_memberAt 32 = .ok (.iload_n 3, 1) := by decide +kernel
theorem dX4_memberAt_33 : decode cX4_memberAt 33 = .ok (.ireturn, 1) := by decide +kernel
theorem dX4_memberAt_34 : decode cX4_memberAt 34 = .ok (.iinc 3 1, 3) := by decide +kernel
theorem dX4_memberAt_37 : decode cX4_memberAt 37 = .ok (.goto (-35), 3) := by decide +kernel
theorem dX4_memberAt_40 : decode cX4_memberAt 40 = .ok (.iconst (-1), 1) := by decide +kernel
theorem dX4_memberAt_41 : decode cX4_memberAt 41 = .ok (.ireturn, 1) := by decide +kernel
theorem hin_X4_memberAt_X4 : ∀ w ∈ wsX40, w ∈ wsX4_memberAt := by decide +kernel
theorem lk_X4_memberAt_9 : Cond.fieldLink RX4 9 RX4 "holder" "[I" ∈ wsX4_memberAt := by decide +kernel
theorem lk_X4_memberAt_15 : Cond.fieldLink RX4 15 RX4 "place" "[I" ∈ wsX4_memberAt := by decide +kernel
theorem c_memberAt (hG : GP G) (hL : LayS S b) (hB : Bd N L) (hN : 1 ≤ N ∧ N ≤ 1073741824) {h i : Int} (hh : -1073741824 ≤ h ∧ h ≤ 1073741824) (hi : -1073741824 ≤ i ∧ i ≤ 1073741824) : Ct G l yX4_memberAt wsX4_memberAt 1 0 0 [.ref b, .int (I32 h), .int (I32 i)] S n (putL mu b L) la (Dt (some (.int (I32 (mbrF L h i)))) S n (putL mu b L) la) := by
  have o4 := hL.1
  refine Ct.ofV (cc := cX4_memberAt) (nL := 4) (ret := (some .int)) [some (.ref b), some (.int (I32 h)), some (.int (I32 i)), none] hG (by decide) rfl (Nat.le_of_ble_eq_true rfl) rfl ?_
  rintro X rfl rfl C hcl hsl E
  have loop : ∀ (m : Nat) (j : Int), 0 ≤ j → j + m = 49 → mbrF L h i = mbrG L h i m → V X 2 [some (.ref b), some (.int (I32 h)), some (.int (I32 i)), some (.int (I32 j))] [] S n (putL mu b L) la 0 0 := by
    intro m
    induction m with
    | zero =>
      intro j h0 hj hr
      refine V_iload_n C dX4_memberAt_2 rfl ?_
      refine V_bipush C dX4_memberAt_3 (by decide +kernel) ?_
      refine V_icmp_ge C 40 dX4_memberAt_5 (by decide) (by omega) (by omega) (fun c => ?_) (fun c => ?_)
      · refine V_iconst C dX4_memberAt_40 ?_
        refine V_ireturn C E dX4_memberAt_41 (by omega) (by omega) ?_
        rw [hr]; exact Dt_rfl
      · exact absurd c (by omega)
    | succ m ih =>
      intro j h0 hj hr
      have e : j = 48 - m := by omega
      have e0 : aL L 0 j = L 0 j := aL_in (by show 0 ≤ j ∧ j < ((49 : Nat) : Int); omega)
      have e1 : aL L 1 j = L 1 j := aL_in (by show 0 ≤ j ∧ j < ((49 : Nat) : Int); omega)
      have b0 := hB 0 j
      have b1 := hB 1 j
      refine V_iload_n C dX4_memberAt_2 rfl ?_
      refine V_bipush C dX4_memberAt_3 (by decide +kernel) ?_
      refine V_icmp_ge C 40 dX4_memberAt_5 (by decide) (by omega) (by omega) (fun c => ?_) (fun c => ?_)
      · exact absurd c (by omega)
      · refine V_aload_n C dX4_memberAt_8 rfl ?_
        refine V_getR C 0 dX4_memberAt_9 o4 rfl hin_X4_memberAt_X4 (by decide) lk_X4_memberAt_9 rfl rfl ?_
        refine V_iload_n C dX4_memberAt_12 rfl ?_
        refine V_callSND (nA := 2) (host := "DockTree") C dX4_memberAt_13 (c_aL C.gp hL 0 _ (by decide) rfl (by omega)) gX4_memberAt_X8_at_n46 (by decide +kernel) (by decide +kernel) (by decide +kernel) rfl (by decide +kernel) rfl (by decide) (by decide) (Nat.le_of_ble_eq_true rfl) ⟨by omega, by omega⟩ rfl ?_
        rw [e0]
        refine V_iload_n C dX4_memberAt_16 rfl ?_
        refine V_icmp_ne C 34 dX4_memberAt_17 (by decide) (by omega) (by omega) (fun c0 => ?_) (fun c0 => ?_)
        · refine V_iinc C dX4_memberAt_34 rfl rfl (by decide) ?_
          refine V_goto C 2 dX4_memberAt_37 (by decide) ?_
          exact ih (j + 1) (by omega) (by omega) (by rw [hr, mbrG, if_neg (by rw [← e]; exact fun q => c0 q.1)])
        · refine V_aload_n C dX4_memberAt_20 rfl ?_
          refine V_getR C 1 dX4_memberAt_21 o4 rfl hin_X4_memberAt_X4 (by decide) lk_X4_memberAt_15 rfl rfl ?_
          refine V_iload_n C dX4_memberAt_24 rfl ?_
          refine V_callSND (nA := 2) (host := "DockTree") C dX4_memberAt_25 (c_aL C.gp hL 1 _ (by decide) rfl (by omega)) gX4_memberAt_X8_at_n46 (by decide +kernel) (by decide +kernel) (by decide +kernel) rfl (by decide +kernel) rfl (by decide) (by decide) (Nat.le_of_ble_eq_true rfl) ⟨by omega, by omega⟩ rfl ?_
          rw [e1]
          refine V_iload_n C dX4_memberAt_28 rfl ?_
          refine V_icmp_ne C 34 dX4_memberAt_29 (by decide) (by omega) (by omega) (fun c1 => ?_) (fun c1 => ?_)
          · refine V_iinc C dX4_memberAt_34 rfl rfl (by decide) ?_
            refine V_goto C 2 dX4_memberAt_37 (by decide) ?_
            exact ih (j + 1) (by omega) (by omega) (by rw [hr, mbrG, if_neg (by rw [← e]; exact fun q => c1 q.2)])
          · refine V_iload_n C dX4_memberAt_32 rfl ?_
            refine V_ireturn C E dX4_memberAt_33 (by omega) (by omega) ?_
            rw [hr, mbrG, if_pos (by rw [← e]; exact ⟨c0, c1⟩), ← e]; exact Dt_rfl
  refine V_iconst C dX4_memberAt_0 ?_
  refine V_istore_n C dX4_memberAt_1 rfl (by decide) ?_
  exact loop 49 0 (by omega) (by omega) rfl
def insF (L : Mem) (t h i : Int) : Mem := pL (pL (pL (insP L h i 49) 0 t h) 1 t i) 2 h (aL L 2 h + 1)
theorem aL_insP (L : Mem) (h i j : Int) {k : Nat} (hk : k ≠ 1) (o : Int) : aL (insP L h i j) k o = aL L k o := by
  unfold aL atF
  rw [insP_k L h i j o hk]
theorem aL_remP (L : Mem) (h i j : Int) {k : Nat} (hk : k ≠ 1) (o : Int) : aL (remP L h i j) k o = aL L k o := by
  unfold aL atF
  rw [remP_k L h i j o hk]
set_option maxRecDepth 20000 in
theorem ggX4_insert_X8_at : GoodIn wsX4_insert wsX8_at := goodIn_r _ [6] (by decide +kernel) (by decide +kernel)
set_option maxRecDepth 20000 in
theorem gX4_insert_X8_at_n46 : GoodIn wsX4_insert (wsX8_at) := ggX4_insert_X8_at
set_option maxRecDepth 20000 in
theorem ggX4_insert_X8_put : GoodIn wsX4_insert wsX8_put := goodIn_r _ [8] (by decide +kernel) (by decide +kernel)
set_option maxRecDepth 20000 in
theorem gX4_insert_X8_put_n50 : GoodIn wsX4_insert (wsX8_put) := ggX4_insert_X8_put
theorem dX4_insert_0 : decode cX4_insert 0 = .ok (.iconst 0, 1) := by decide +kernel
theorem dX4_insert_1 : decode cX4_insert 1 = .ok (.istore 4, 2) := by decide +kernel
theorem dX4_insert_3 : decode cX4_insert 3 = .ok (.iload 4, 2) := by decide +kernel
theorem dX4_insert_5 : decode cX4_insert 5 = .ok (.bipush 49, 2) := by decide +kernel
theorem dX4_insert_7 : decode cX4_insert 7 = .ok (.if_icmp .ge 55, 3) := by decide +kernel
theorem dX4_insert_10 : decode cX4_insert 10 = .ok (.aload_n 0, 1) := by decide +kernel
theorem dX4_insert_11 : decode cX4_insert 11 = .ok (.getfield 9, 3) := by decide +kernel
theorem dX4_insert_14 : decode cX4_insert 14 = .ok (.iload 4, 2) := by decide +kernel
theorem dX4_insert_16 : decode cX4_insert 16 = .ok (.invokestatic 46, 3) := by decide +kernel
theorem dX4_insert_19 : decode cX4_insert 19 = .ok (.iload_n 2, 1) := by decide +kernel
theorem dX4_insert_20 : decode cX4_insert 20 = .ok (.if_icmp .ne 36, 3) := by decide +kernel
theorem dX4_insert_23 : decode cX4_insert 23 = .ok (.aload_n 0, 1) := by decide +kernel
theorem dX4_insert_24 : decode cX4_insert 24 = .ok (.getfield 15, 3) := by decide +kernel
theorem dX4_insert_27 : decode cX4_insert 27 = .ok (.iload 4, 2) := by decide +kernel
theorem dX4_insert_29 : decode cX4_insert 29 = .ok (.invokestatic 46, 3) := by decide +kernel
theorem dX4_insert_32 : decode cX4_insert 32 = .ok (.iload_n 3, 1) := by decide +kernel
theorem dX4_insert_33 : decode cX4_insert 33 = .ok (.if_icmp .lt 23, 3) := by decide +kernel
theorem dX4_insert_36 : decode cX4_insert 36 = .ok (.aload_n 0, 1) := by decide +kernel
theorem dX4_insert_37 : decode cX4_insert 37 = .ok (.getfield 15, 3) := by decide +kernel
theorem dX4_insert_40 : decode cX4_insert 40 = .ok (.iload 4, 2) := by decide +kernel
theorem dX4_insert_42 : decode cX4_insert 42 = .ok (.aload_n 0, 1) := by decide +kernel
theorem dX4_insert_43 : decode cX4_insert 43 = .ok (.getfield 15, 3) := by decide +kernel
theorem dX4_insert_46 : decode cX4_insert 46 = .ok (.iload 4, 2) := by decide +kernel
theorem dX4_insert_48 : decode cX4_insert 48 = .ok (.invokestatic 46, 3) := by decide +kernel
theorem dX4_insert_51 : decode cX4_insert 51 = .ok (.iconst 1, 1) := by decide +kernel
theorem dX4_insert_52 : decode cX4_insert 52 = .ok (.iadd, 1) := by decide +kernel
theorem dX4_insert_53 : decode cX4_insert 53 = .ok (.invokestatic 50, 3) := by decide +kernel
theorem dX4_insert_56 : decode cX4_insert 56 = .ok (.iinc 4 1, 3) := by decide +kernel
theorem dX4_insert_59 : decode cX4_insert 59 = .ok (.goto (-56), 3) := by decide +kernel
theorem dX4_insert_62 : decode cX4_insert 62 = .ok (.aload_n 0, 1) := by decide +kernel
theorem dX4_insert_63 : decode cX4_insert 63 = .ok (.getfield 9, 3) := by decide +kernel
theorem dX4_insert_66 : decode cX4_insert 66 = .ok (.iload_n 1, 1) := by decide +kernel
theorem dX4_insert_67 : decode cX4_insert 67 = .ok (.iload_n 2, 1) := by decide +kernel
theorem dX4_insert_68 : decode cX4_insert 68 = .ok (.invokestatic 50, 3) := by decide +kernel
theorem dX4_insert_71 : decode cX4_insert 71 = .ok (.aload_n 0, 1) := by decide +kernel
theorem dX4_insert_72 : decode cX4_insert 72 = .ok (.getfield 15, 3) := by decide +kernel
theorem dX4_insert_75 : decode cX4_insert 75 = .ok (.iload_n 1, 1) := by decide +kernel
theorem dX4_insert_76 : decode cX4_insert 76 = .ok (.iload_n 3, 1) := by decide +kernel
theorem dX4_insert_77 : decode cX4_insert 77 = .ok (.invokestatic 50, 3) := by decide +kernel
theorem dX4_insert_80 : decode cX4_insert 80 = .ok (.aload_n 0, 1) := by decide +kernel
theorem dX4_insert_81 : decode cX4_insert 81 = .ok (.getfield 18, 3) := by decide +kernel
theorem dX4_insert_84 : decode cX4_insert 84 = .ok (.iload_n 2, 1) := by decide +kernel
theorem dX4_insert_85 : decode cX4_insert 85 = .ok (.aload_n 0, 1) := by decide +kernel
theorem dX4_insert_86 : decode cX4_insert 86 = .ok (.getfield 18, 3) := by decide +kernel
theorem dX4_insert_89 : decode cX4_insert 89 = .ok (.iload_n 2, 1) := by decide +kernel
theorem dX4_insert_90 : decode cX4_insert 90 = .ok (.invokestatic 46, 3) := by decide +kernel
theorem dX4_insert_93 : decode cX4_insert 93 = .ok (.iconst 1, 1) := by decide +kernel
theorem dX4_insert_94 : decode cX4_insert 94 = .ok (.iadd, 1) := by decide +kernel
theorem dX4_insert_95 : decode cX4_insert 95 = .ok (.invokestatic 50, 3) := by decide +kernel
theorem dX4_insert_98 : decode cX4_insert 98 = .ok (.return_, 1) := by decide +kernel
theorem hin_X4_insert_X4 : ∀ w ∈ wsX40, w ∈ wsX4_insert := by decide +kernel
theorem lk_X4_insert_9 : Cond.fieldLink RX4 9 RX4 "holder" "[I" ∈ wsX4_insert := by decide +kernel
theorem lk_X4_insert_15 : Cond.fieldLink RX4 15 RX4 "place" "[I" ∈ wsX4_insert := by decide +kernel
theorem lk_X4_insert_18 : Cond.fieldLink RX4 18 RX4 "count" "[I" ∈ wsX4_insert := by decide +kernel
theorem c_insert (hG : GP G) (hL : LayS S b) (hB : Bd N L) (hN : 1 ≤ N ∧ N ≤ 1073741824) {t h i : Int} (ht : -1073741824 ≤ t ∧ t ≤ 1073741824) (hh : -1073741824 ≤ h ∧ h ≤ 1073741824) (hi : -1073741824 ≤ i ∧ i ≤ 1073741824) : Ct G l yX4_insert wsX4_insert 1 0 0 [.ref b, .int (I32 t), .int (I32 h), .int (I32 i)] S n (putL mu b L) la (Dt none S n (putL mu b (insF L t h i)) la) := by
  have o4 := hL.1
  refine Ct.ofV (cc := cX4_insert) (nL := 5) (ret := none) [some (.ref b), some (.int (I32 t)), some (.int (I32 h)), some (.int (I32 i)), none] hG (by decide) rfl (Nat.le_of_ble_eq_true rfl) rfl ?_
  rintro X rfl rfl C hcl hsl E
  have loop : ∀ (m : Nat) (j : Int), 0 ≤ j → j + m = 49 → V X 3 [some (.ref b), some (.int (I32 t)), some (.int (I32 h)), some (.int (I32 i)), some (.int (I32 j))] [] S n (putL mu b (insP L h i j)) la 0 0 := by
    intro m
    induction m with
    | zero =>
      intro j h0 hj
      have e : j = 49 := by omega
      subst e
      refine V_iload C dX4_insert_3 rfl ?_
      refine V_bipush C dX4_insert_5 (by decide +kernel) ?_
      refine V_icmp_ge C 62 dX4_insert_7 (by decide) (by omega) (by omega) (fun c => ?_) (fun c => ?_)
      · refine V_aload_n C dX4_insert_62 rfl ?_
        refine V_getR C 0 dX4_insert_63 o4 rfl hin_X4_insert_X4 (by decide) lk_X4_insert_9 rfl rfl ?_
        refine V_iload_n C dX4_insert_66 rfl ?_
        refine V_iload_n C dX4_insert_67 rfl ?_
        refine V_callSND (nA := 3) (host := "DockTree") C dX4_insert_68 (c_pL C.gp hL 0 (by decide) (by omega)) gX4_insert_X8_put_n50 (by decide +kernel) (by decide +kernel) (by decide +kernel) rfl (by decide +kernel) rfl (by decide) (by decide) (Nat.le_of_ble_eq_true rfl) ⟨by omega, by omega⟩ rfl ?_
        refine V_aload_n C dX4_insert_71 rfl ?_
        refine V_getR C 1 dX4_insert_72 o4 rfl hin_X4_insert_X4 (by decide) lk_X4_insert_15 rfl rfl ?_
        refine V_iload_n C dX4_insert_75 rfl ?_
        refine V_iload_n C dX4_insert_76 rfl ?_
        refine V_callSND (nA := 3) (host := "DockTree") C dX4_insert_77 (c_pL C.gp hL 1 (by decide) (by omega)) gX4_insert_X8_put_n50 (by decide +kernel) (by decide +kernel) (by decide +kernel) rfl (by decide +kernel) rfl (by decide) (by decide) (Nat.le_of_ble_eq_true rfl) ⟨by omega, by omega⟩ rfl ?_
        refine V_aload_n C dX4_insert_80 rfl ?_
        refine V_getR C 2 dX4_insert_81 o4 rfl hin_X4_insert_X4 (by decide) lk_X4_insert_18 rfl rfl ?_
        refine V_iload_n C dX4_insert_84 rfl ?_
        refine V_aload_n C dX4_insert_85 rfl ?_
        refine V_getR C 2 dX4_insert_86 o4 rfl hin_X4_insert_X4 (by decide) lk_X4_insert_18 rfl rfl ?_
        refine V_iload_n C dX4_insert_89 rfl ?_
        refine V_callSND (nA := 2) (host := "DockTree") C dX4_insert_90 (c_aL C.gp hL 2 _ (by decide) rfl (by omega)) gX4_insert_X8_at_n46 (by decide +kernel) (by decide +kernel) (by decide +kernel) rfl (by decide +kernel) rfl (by decide) (by decide) (Nat.le_of_ble_eq_true rfl) ⟨by omega, by omega⟩ rfl ?_
        refine V_iconst C dX4_insert_93 ?_
        refine V_iadd C dX4_insert_94 ?_
        refine V_callSND (nA := 3) (host := "DockTree") C dX4_insert_95 (c_pL C.gp hL 2 (by decide) (by omega)) gX4_insert_X8_put_n50 (by decide +kernel) (by decide +kernel) (by decide +kernel) rfl (by decide +kernel) rfl (by decide) (by decide) (Nat.le_of_ble_eq_true rfl) ⟨by omega, by omega⟩ rfl ?_
        refine V_return C E dX4_insert_98 (by omega) (by omega) ?_
        rw [aL_pL_ne (by decide), aL_pL_ne (by decide), aL_insP _ _ _ _ (by decide)]
        exact Dt_rfl
      · exact absurd c (by omega)
    | succ m ih =>
      intro j h0 hj
      have e0 : aL (insP L h i j) 0 j = L 0 j := by rw [aL_in (by show 0 ≤ j ∧ j < ((49 : Nat) : Int); omega), insP_hi _ _ _ _ _ (by omega)]
      have e1 : aL (insP L h i j) 1 j = L 1 j := by rw [aL_in (by show 0 ≤ j ∧ j < ((49 : Nat) : Int); omega), insP_hi _ _ _ _ _ (by omega)]
      have b0 := hB 0 j
      have b1 := hB 1 j
      refine V_iload C dX4_insert_3 rfl ?_
      refine V_bipush C dX4_insert_5 (by decide +kernel) ?_
      refine V_icmp_ge C 62 dX4_insert_7 (by decide) (by omega) (by omega) (fun c => ?_) (fun c => ?_)
      · exact absurd c (by omega)
      · refine V_aload_n C dX4_insert_10 rfl ?_
        refine V_getR C 0 dX4_insert_11 o4 rfl hin_X4_insert_X4 (by decide) lk_X4_insert_9 rfl rfl ?_
        refine V_iload C dX4_insert_14 rfl ?_
        refine V_callSND (nA := 2) (host := "DockTree") C dX4_insert_16 (c_aL C.gp hL 0 _ (by decide) rfl (by omega)) gX4_insert_X8_at_n46 (by decide +kernel) (by decide +kernel) (by decide +kernel) rfl (by decide +kernel) rfl (by decide) (by decide) (Nat.le_of_ble_eq_true rfl) ⟨by omega, by omega⟩ rfl ?_
        rw [e0]
        refine V_iload_n C dX4_insert_19 rfl ?_
        refine V_icmp_ne C 56 dX4_insert_20 (by decide) (by omega) (by omega) (fun c0 => ?_) (fun c0 => ?_)
        · rw [insP_no (fun q => c0 q.1)]
          refine V_iinc C dX4_insert_56 rfl rfl (by decide) ?_
          refine V_goto C 3 dX4_insert_59 (by decide) ?_
          exact ih (j + 1) (by omega) (by omega)
        · refine V_aload_n C dX4_insert_23 rfl ?_
          refine V_getR C 1 dX4_insert_24 o4 rfl hin_X4_insert_X4 (by decide) lk_X4_insert_15 rfl rfl ?_
          refine V_iload C dX4_insert_27 rfl ?_
          refine V_callSND (nA := 2) (host := "DockTree") C dX4_insert_29 (c_aL C.gp hL 1 _ (by decide) rfl (by omega)) gX4_insert_X8_at_n46 (by decide +kernel) (by decide +kernel) (by decide +kernel) rfl (by decide +kernel) rfl (by decide) (by decide) (Nat.le_of_ble_eq_true rfl) ⟨by omega, by omega⟩ rfl ?_
          rw [e1]
          refine V_iload_n C dX4_insert_32 rfl ?_
          refine V_icmp_lt C 56 dX4_insert_33 (by decide) (by omega) (by omega) (fun c1 => ?_) (fun c1 => ?_)
          · rw [insP_no (fun q => by omega)]
            refine V_iinc C dX4_insert_56 rfl rfl (by decide) ?_
            refine V_goto C 3 dX4_insert_59 (by decide) ?_
            exact ih (j + 1) (by omega) (by omega)
          · refine V_aload_n C dX4_insert_36 rfl ?_
            refine V_getR C 1 dX4_insert_37 o4 rfl hin_X4_insert_X4 (by decide) lk_X4_insert_15 rfl rfl ?_
            refine V_iload C dX4_insert_40 rfl ?_
            refine V_aload_n C dX4_insert_42 rfl ?_
            refine V_getR C 1 dX4_insert_43 o4 rfl hin_X4_insert_X4 (by decide) lk_X4_insert_15 rfl rfl ?_
            refine V_iload C dX4_insert_46 rfl ?_
            refine V_callSND (nA := 2) (host := "DockTree") C dX4_insert_48 (c_aL C.gp hL 1 _ (by decide) rfl (by omega)) gX4_insert_X8_at_n46 (by decide +kernel) (by decide +kernel) (by decide +kernel) rfl (by decide +kernel) rfl (by decide) (by decide) (Nat.le_of_ble_eq_true rfl) ⟨by omega, by omega⟩ rfl ?_
            rw [e1]
            refine V_iconst C dX4_insert_51 ?_
            refine V_iadd C dX4_insert_52 ?_
            refine V_callSND (nA := 3) (host := "DockTree") C dX4_insert_53 (c_pL C.gp hL 1 (by decide) (by omega)) gX4_insert_X8_put_n50 (by decide +kernel) (by decide +kernel) (by decide +kernel) rfl (by decide +kernel) rfl (by decide) (by decide) (Nat.le_of_ble_eq_true rfl) ⟨by omega, by omega⟩ rfl ?_
            rw [insP_yes (by omega) c0 c1]
            refine V_iinc C dX4_insert_56 rfl rfl (by decide) ?_
            refine V_goto C 3 dX4_insert_59 (by decide) ?_
            exact ih (j + 1) (by omega) (by omega)
  refine V_iconst C dX4_insert_0 ?_
  refine V_istore C dX4_insert_1 rfl (by decide) ?_
  have h9 := loop 49 0 (by omega) (by omega)
  rw [insP_0] at h9
  exact h9
end LC
