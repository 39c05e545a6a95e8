/-! STATES AND HISTORY, on the memory itself: a state at c has 49 cells: c its object, c + 1 least, c + 2 .. its layout, c + 11 kept, c + 12 has, c + 13 + 9 j .. the kept layouts -/
def StS (S : Sh) (c : Nat) : Prop :=
  hasS S c (.inr (.inr (5, [.inr 0, .inr 0, .inr 0, .inl (.ref (c + 1)), .inl (.ref (c + 2)), .inl (.ref (c + 11)), .inl (.ref (c + 12))]))) ∧ hasS S (c + 1) (.inl (0, 32)) ∧ LayS S (c + 2) ∧
  hasS S (c + 11) (.inr (.inl (0, 4, fun k => some (c + 13 + 9 * k)))) ∧ hasS S (c + 12) (.inl (0, 4)) ∧ ∀ k, k < 4 → LayS S (c + 13 + 9 * k)
def cp3 (mu : Mem) (d c : Nat) : Mem := up (up (up mu c 0 (mu d 0)) c 1 (mu d 1)) c 2 (mu d 2)
def stA (mu : Mem) (d c : Nat) : Mem := cpF (cp8 (cpF (cp3 mu d c) (d + 1) (c + 1) 32) (d + 2) (c + 2) 8) (d + 12) (c + 12) 4
def stK (mu : Mem) (d c : Nat) : Nat → Mem
  | 0 => stA mu d c
  | j + 1 => if gK (stK mu d c j) (c + 12) 4 j = 1 then cp8 (stK mu d c j) (d + 13 + 9 * j) (c + 13 + 9 * j) 8 else stK mu d c j
def stC (mu : Mem) (d c : Nat) : Mem := stK mu d c 4
def hkF (mu : Mem) (c : Nat) (i : Int) : Int := if gK mu (c + 12) 4 i = 1 then 1 else 0
theorem hkF_b (mu : Mem) (c : Nat) (i : Int) : 0 ≤ hkF mu c i ∧ hkF mu c i ≤ 1 := by unfold hkF; split <;> omega
theorem R32_cpF {mu : Mem} (h : R32 mu) (a b m : Nat) : R32 (cpF mu a b m) := fun x i => by
  unfold cpF
  split
  · exact h a i
  · exact h x i
theorem R32_cp8 {mu : Mem} (h : R32 mu) (a b : Nat) : ∀ k, R32 (cp8 mu a b k)
  | 0 => h
  | k + 1 => R32_cpF (R32_cp8 h a b k) _ _ _
theorem R32_stA {mu : Mem} (h : R32 mu) (d c : Nat) : R32 (stA mu d c) :=
  R32_cpF (R32_cp8 (R32_cpF (R32_up (R32_up (R32_up h _ _ (h _ _)) _ _ (h _ _)) _ _ (h _ _)) _ _ _) _ _ _) _ _ _
theorem R32_stK {mu : Mem} (h : R32 mu) (d c : Nat) : ∀ j, R32 (stK mu d c j)
  | 0 => R32_stA h d c
  | j + 1 => by
    rw [stK]
    split
    · exact R32_cp8 (R32_stK h d c j) _ _ _
    · exact R32_stK h d c j
theorem R32_stC {mu : Mem} (h : R32 mu) (d c : Nat) : R32 (stC mu d c) := R32_stK h d c 4
theorem cpF_off {mu : Mem} {a b m x : Nat} (h : x ≠ b) (i : Int) : cpF mu a b m x i = mu x i := by
  unfold cpF
  rw [if_neg (fun y => h y.1)]
theorem cp8_off {mu : Mem} {a b x : Nat} (i : Int) : ∀ k, x ≤ b ∨ b + k < x → cp8 mu a b k x i = mu x i
  | 0, _ => rfl
  | k + 1, h => by
    rw [cp8, cpF_off (by omega), cp8_off i k (by omega)]
theorem stK_off {mu : Mem} {d c x : Nat} (h : x < c ∨ c + 49 ≤ x) (i : Int) : ∀ j, j ≤ 4 → stK mu d c j x i = mu x i
  | 0, _ => by
    show stA mu d c x i = _
    rw [stA, cpF_off (by omega), cp8_off i 8 (by omega), cpF_off (by omega), cp3, up_a _ _ _ _ (by omega), up_a _ _ _ _ (by omega), up_a _ _ _ _ (by omega)]
  | j + 1, hj => by
    rw [stK]
    split
    · rw [cp8_off i 8 (by omega), stK_off h i j (by omega)]
    · exact stK_off h i j (by omega)
theorem stC_off {mu : Mem} {d c x : Nat} (h : x < c ∨ c + 49 ≤ x) (i : Int) : stC mu d c x i = mu x i := stK_off h i 4 (by omega)
section SW
variable {G : Gx} {l : Launch} {S : Sh} {n : Nat} {mu : Mem} {la : Lam} {c d q m : Nat}
theorem c_atW (hG : GP G) (hx : hasS S q (.inl (0, m))) (hm : m < 2147483648) {i : Int} :
    Ct G l yX8_at wsX8_at 0 0 0 [.ref q, .int (I32 i)] S n mu la (Dt (some (.int (I32 (gK mu q m i)))) S n mu la) := by
  have h := c_at (l := l) (n := n) (la := la) (mu := mu) (i := wr i) hG hx hm (wr_b i)
  rw [I32_wr] at h
  exact h
theorem c_putW (hG : GP G) (hx : hasS S q (.inl (0, m))) (hm : m < 2147483648) {i v : Int} :
    Ct G l yX8_put wsX8_put 0 0 0 [.ref q, .int (I32 i), .int (I32 v)] S n mu la (Dt none S n (sK mu q m i v) la) := by
  have h := c_put (l := l) (n := n) (la := la) (mu := mu) (i := wr i) (v := wr v) hG hx hm (wr_b i)
  rw [I32_wr, I32_wr] at h
  exact h
set_option maxRecDepth 20000 in
theorem ggX7_leastOf_X8_at : GoodIn wsX7_leastOf wsX8_at := goodIn_r _ [4] (by decide +kernel) (by decide +kernel)
set_option maxRecDepth 20000 in
theorem gX7_leastOf_X8_at_n55 : GoodIn wsX7_leastOf (wsX8_at) := ggX7_leastOf_X8_at
theorem dX7_leastOf_0 : decode cX7_leastOf 0 = .ok (.aload_n 0, 1) := by decide +kernel
theorem dX7_leastOf_1 : decode cX7_leastOf 1 = .ok (.getfield 18, 3) := by decide +kernel
theorem dX7_leastOf_4 : decode cX7_leastOf 4 = .ok (.iconst 2, 1) := by decide +kernel
theorem dX7_leastOf_5 : decode cX7_leastOf 5 = .ok (.iload_n 1, 1) := by decide +kernel
theorem dX7_leastOf_6 : decode cX7_leastOf 6 = .ok (.imul, 1) := by decide +kernel
theorem dX7_leastOf_7 : decode cX7_leastOf 7 = .ok (.iload_n 2, 1) := by decide +kernel
theorem dX7_leastOf_8 : decode cX7_leastOf 8 = .ok (.iadd, 1) := by decide +kernel
theorem dX7_leastOf_9 : decode cX7_leastOf 9 = .ok (.invokestatic 55, 3) := by decide +kernel
theorem dX7_leastOf_12 : decode cX7_leastOf 12 = .ok (.ireturn, 1) := by decide +kernel
theorem hin_X7_leastOf_X7 : ∀ w ∈ wsX70, w ∈ wsX7_leastOf := by decide +kernel
theorem lk_X7_leastOf_18 : Cond.fieldLink RX7 18 RX7 "least" "[I" ∈ wsX7_leastOf := by decide +kernel
theorem c_stLeast (hG : GP G) (hc : StS S c) {p x : Int} : Ct G l yX7_leastOf wsX7_leastOf 1 0 0 [.ref c, .int (I32 p), .int (I32 x)] S n mu la (Dt (some (.int (I32 (gK mu (c + 1) 32 (2 * p + x))))) S n mu la) := by
  have o7 := hc.1
  refine Ct.ofV (cc := cX7_leastOf) (nL := 3) (ret := (some .int)) [some (.ref c), some (.int (I32 p)), some (.int (I32 x))] hG (by decide) rfl (Nat.le_of_ble_eq_true rfl) rfl ?_
  rintro X rfl rfl C hcl hsl E
  refine V_aload_n C dX7_leastOf_0 rfl ?_
  refine V_getR C 3 dX7_leastOf_1 o7 rfl hin_X7_leastOf_X7 (by decide) lk_X7_leastOf_18 rfl rfl ?_
  refine V_iconst C dX7_leastOf_4 ?_
  refine V_iload_n C dX7_leastOf_5 rfl ?_
  refine V_imul C dX7_leastOf_6 ?_
  refine V_iload_n C dX7_leastOf_7 rfl ?_
  refine V_iadd C dX7_leastOf_8 ?_
  refine V_callSND (nA := 2) (host := "DockTree") C dX7_leastOf_9 (c_atW C.gp hc.2.1 (by decide)) gX7_leastOf_X8_at_n55 (by decide +kernel) (by decide +kernel) (by decide +kernel) rfl (by decide +kernel) rfl (by decide) (by decide) (Nat.le_of_ble_eq_true rfl) ⟨by omega, by omega⟩ rfl ?_
  refine V_ireturn C E dX7_leastOf_12 (by omega) (by omega) ?_
  exact Dt_rfl
def clM (mu : Mem) (c : Nat) (p w h : Int) : Mem := sK (sK mu (c + 1) 32 (2 * p + 0) w) (c + 1) 32 (2 * p + 1) h
set_option maxRecDepth 20000 in
theorem ggX7_changeLeast_X8_put : GoodIn wsX7_changeLeast wsX8_put := goodIn_r _ [4] (by decide +kernel) (by decide +kernel)
set_option maxRecDepth 20000 in
theorem gX7_changeLeast_X8_put_n59 : GoodIn wsX7_changeLeast (wsX8_put) := ggX7_changeLeast_X8_put
theorem dX7_changeLeast_0 : decode cX7_changeLeast 0 = .ok (.aload_n 0, 1) := by decide +kernel
theorem dX7_changeLeast_1 : decode cX7_changeLeast 1 = .ok (.getfield 18, 3) := by decide +kernel
theorem dX7_changeLeast_4 : decode cX7_changeLeast 4 = .ok (.iconst 2, 1) := by decide +kernel
theorem dX7_changeLeast_5 : decode cX7_changeLeast 5 = .ok (.iload_n 1, 1) := by decide +kernel
theorem dX7_changeLeast_6 : decode cX7_changeLeast 6 = .ok (.imul, 1) := by decide +kernel
theorem dX7_changeLeast_7 : decode cX7_changeLeast 7 = .ok (.iconst 0, 1) := by decide +kernel
theorem dX7_changeLeast_8 : decode cX7_changeLeast 8 = .ok (.iadd, 1) := by decide +kernel
theorem dX7_changeLeast_9 : decode cX7_changeLeast 9 = .ok (.iload_n 2, 1) := by decide +kernel
theorem dX7_changeLeast_10 : decode cX7_changeLeast 10 = .ok (.invokestatic 59, 3) := by decide +kernel
theorem dX7_changeLeast_13 : decode cX7_changeLeast 13 = .ok (.aload_n 0, 1) := by decide +kernel
theorem dX7_changeLeast_14 : decode cX7_changeLeast 14 = .ok (.getfield 18, 3) := by decide +kernel
theorem dX7_changeLeast_17 : decode cX7_changeLeast 17 = .ok (.iconst 2, 1) := by decide +kernel
theorem dX7_changeLeast_18 : decode cX7_changeLeast 18 = .ok (.iload_n 1, 1) := by decide +kernel
theorem dX7_changeLeast_19 : decode cX7_changeLeast 19 = .ok (.imul, 1) := by decide +kernel
theorem dX7_changeLeast_20 : decode cX7_changeLeast 20 = .ok (.iconst 1, 1) := by decide +kernel
theorem dX7_changeLeast_21 : decode cX7_changeLeast 21 = .ok (.iadd, 1) := by decide +kernel
theorem dX7_changeLeast_22 : decode cX7_changeLeast 22 = .ok (.iload_n 3, 1) := by decide +kernel
theorem dX7_changeLeast_23 : decode cX7_changeLeast 23 = .ok (.invokestatic 59, 3) := by decide +kernel
theorem dX7_changeLeast_26 : decode cX7_changeLeast 26 = .ok (.return_, 1) := by decide +kernel
theorem hin_X7_changeLeast_X7 : ∀ w ∈ wsX70, w ∈ wsX7_changeLeast := by decide +kernel
theorem lk_X7_changeLeast_18 : Cond.fieldLink RX7 18 RX7 "least" "[I" ∈ wsX7_changeLeast := by decide +kernel
theorem c_changeLeast (hG : GP G) (hc : StS S c) {p w h : Int} : Ct G l yX7_changeLeast wsX7_changeLeast 1 0 0 [.ref c, .int (I32 p), .int (I32 w), .int (I32 h)] S n mu la (Dt none S n (clM mu c p w h) la) := by
  have o7 := hc.1
  refine Ct.ofV (cc := cX7_changeLeast) (nL := 4) (ret := none) [some (.ref c), some (.int (I32 p)), some (.int (I32 w)), some (.int (I32 h))] hG (by decide) rfl (Nat.le_of_ble_eq_true rfl) rfl ?_
  rintro X rfl rfl C hcl hsl E
  refine V_aload_n C dX7_changeLeast_0 rfl ?_
  refine V_getR C 3 dX7_changeLeast_1 o7 rfl hin_X7_changeLeast_X7 (by decide) lk_X7_changeLeast_18 rfl rfl ?_
  refine V_iconst C dX7_changeLeast_4 ?_
  refine V_iload_n C dX7_changeLeast_5 rfl ?_
  refine V_imul C dX7_changeLeast_6 ?_
  refine V_iconst C dX7_changeLeast_7 ?_
  refine V_iadd C dX7_changeLeast_8 ?_
  refine V_iload_n C dX7_changeLeast_9 rfl ?_
  refine V_callSND (nA := 3) (host := "DockTree") C dX7_changeLeast_10 (c_putW C.gp hc.2.1 (by decide)) gX7_changeLeast_X8_put_n59 (by decide +kernel) (by decide +kernel) (by decide +kernel) rfl (by decide +kernel) rfl (by decide) (by decide) (Nat.le_of_ble_eq_true rfl) ⟨by omega, by omega⟩ rfl ?_
  refine V_aload_n C dX7_changeLeast_13 rfl ?_
  refine V_getR C 3 dX7_changeLeast_14 o7 rfl hin_X7_changeLeast_X7 (by decide) lk_X7_changeLeast_18 rfl rfl ?_
  refine V_iconst C dX7_changeLeast_17 ?_
  refine V_iload_n C dX7_changeLeast_18 rfl ?_
  refine V_imul C dX7_changeLeast_19 ?_
  refine V_iconst C dX7_changeLeast_20 ?_
  refine V_iadd C dX7_changeLeast_21 ?_
  refine V_iload_n C dX7_changeLeast_22 rfl ?_
  refine V_callSND (nA := 3) (host := "DockTree") C dX7_changeLeast_23 (c_putW C.gp hc.2.1 (by decide)) gX7_changeLeast_X8_put_n59 (by decide +kernel) (by decide +kernel) (by decide +kernel) rfl (by decide +kernel) rfl (by decide) (by decide) (Nat.le_of_ble_eq_true rfl) ⟨by omega, by omega⟩ rfl ?_
  refine V_return C E dX7_changeLeast_26 (by omega) (by omega) ?_
  exact Dt_rfl
def apM (mu : Mem) (c : Nat) (w h : Int) : Mem := up (clM mu c (mu c 2) w h) c 2 (wr (clM mu c (mu c 2) w h c 2 + 1))
set_option maxRecDepth 20000 in
theorem ggX7_appendPane_X7_changeLeast : GoodIn wsX7_appendPane wsX7_changeLeast := goodIn_r _ [6, 7, 8, 9, 10, 11, 12, 13, 14, 15, 16, 17] (by decide +kernel) (by decide +kernel)
set_option maxRecDepth 20000 in
theorem gX7_appendPane_X7_changeLeast : GoodIn wsX7_appendPane (wsV RX7 63 RX7 yX7_changeLeast wsX7_changeLeast) := goodIn_app (goodIn_of _ (by decide +kernel)) ggX7_appendPane_X7_changeLeast
theorem dX7_appendPane_0 : decode cX7_appendPane 0 = .ok (.aload_n 0, 1) := by decide +kernel
theorem dX7_appendPane_1 : decode cX7_appendPane 1 = .ok (.aload_n 0, 1) := by decide +kernel
theorem dX7_appendPane_2 : decode cX7_appendPane 2 = .ok (.getfield 36, 3) := by decide +kernel
theorem dX7_appendPane_5 : decode cX7_appendPane 5 = .ok (.iload_n 1, 1) := by decide +kernel
theorem dX7_appendPane_6 : decode cX7_appendPane 6 = .ok (.iload_n 2, 1) := by decide +kernel
theorem dX7_appendPane_7 : decode cX7_appendPane 7 = .ok (.invokevirtual 63, 3) := by decide +kernel
theorem dX7_appendPane_10 : decode cX7_appendPane 10 = .ok (.aload_n 0, 1) := by decide +kernel
theorem dX7_appendPane_11 : decode cX7_appendPane 11 = .ok (.dup, 1) := by decide +kernel
theorem dX7_appendPane_12 : decode cX7_appendPane 12 = .ok (.getfield 36, 3) := by decide +kernel
theorem dX7_appendPane_15 : decode cX7_appendPane 15 = .ok (.iconst 1, 1) := by decide +kernel
theorem dX7_appendPane_16 : decode cX7_appendPane 16 = .ok (.iadd, 1) := by decide +kernel
theorem dX7_appendPane_17 : decode cX7_appendPane 17 = .ok (.putfield 36, 3) := by decide +kernel
theorem dX7_appendPane_20 : decode cX7_appendPane 20 = .ok (.return_, 1) := by decide +kernel
theorem hin_X7_appendPane_X7 : ∀ w ∈ wsX70, w ∈ wsX7_appendPane := by decide +kernel
theorem lk_X7_appendPane_36 : Cond.fieldLink RX7 36 RX7 "panes" "I" ∈ wsX7_appendPane := by decide +kernel
theorem c_appendPane (hG : GP G) (hc : StS S c) {w h : Int} : Ct G l yX7_appendPane wsX7_appendPane 2 0 0 [.ref c, .int (I32 w), .int (I32 h)] S n mu la (Dt none S n (apM mu c w h) la) := by
  have o7 := hc.1
  refine Ct.ofV (cc := cX7_appendPane) (nL := 3) (ret := none) [some (.ref c), some (.int (I32 w)), some (.int (I32 h))] hG (by decide) rfl (Nat.le_of_ble_eq_true rfl) rfl ?_
  rintro X rfl rfl C hcl hsl E
  refine V_aload_n C dX7_appendPane_0 rfl ?_
  refine V_aload_n C dX7_appendPane_1 rfl ?_
  refine V_getJ C 2 2 rfl dX7_appendPane_2 o7 rfl hin_X7_appendPane_X7 (by decide) lk_X7_appendPane_36 rfl rfl rfl ?_
  refine V_iload_n C dX7_appendPane_5 rfl ?_
  refine V_iload_n C dX7_appendPane_6 rfl ?_
  refine V_callVD (nA := 3) C dX7_appendPane_7 (c_changeLeast C.gp hc) gX7_appendPane_X7_changeLeast rfl o7 rfl (by decide +kernel) rfl (by decide) (by decide) (Nat.le_of_ble_eq_true rfl) ⟨by omega, by omega⟩ rfl ?_
  refine V_aload_n C dX7_appendPane_10 rfl ?_
  refine V_dup C dX7_appendPane_11 rfl ?_
  refine V_getJ C 2 2 rfl dX7_appendPane_12 o7 rfl hin_X7_appendPane_X7 (by decide) lk_X7_appendPane_36 rfl rfl rfl ?_
  refine V_iconst C dX7_appendPane_15 ?_
  refine V_iadd C dX7_appendPane_16 ?_
  refine V_wr ?_
  refine V_putJ C 2 2 rfl dX7_appendPane_17 o7 rfl hin_X7_appendPane_X7 tyX7 tyX7_ok nmX7 (by decide) lk_X7_appendPane_36 rfl rfl (by decide +kernel) rfl rfl ?_
  refine V_return C E dX7_appendPane_20 (by omega) (by omega) ?_
  exact Dt_rfl
set_option maxRecDepth 20000 in
theorem ggX7_hasKept_X8_at : GoodIn wsX7_hasKept wsX8_at := goodIn_r _ [4] (by decide +kernel) (by decide +kernel)
set_option maxRecDepth 20000 in
theorem gX7_hasKept_X8_at_n55 : GoodIn wsX7_hasKept (wsX8_at) := ggX7_hasKept_X8_at
theorem dX7_hasKept_0 : decode cX7_hasKept 0 = .ok (.aload_n 0, 1) := by decide +kernel
theorem dX7_hasKept_1 : decode cX7_hasKept 1 = .ok (.getfield 33, 3) := by decide +kernel
theorem dX7_hasKept_4 : decode cX7_hasKept 4 = .ok (.iload_n 1, 1) := by decide +kernel
theorem dX7_hasKept_5 : decode cX7_hasKept 5 = .ok (.invokestatic 55, 3) := by decide +kernel
theorem dX7_hasKept_8 : decode cX7_hasKept 8 = .ok (.iconst 1, 1) := by decide +kernel
theorem dX7_hasKept_9 : decode cX7_hasKept 9 = .ok (.if_icmp .ne 7, 3) := by decide +kernel
theorem dX7_hasKept_12 : decode cX7_hasKept 12 = .ok (.iconst 1, 1) := by decide +kernel
theorem dX7_hasKept_13 : decode cX7_hasKept 13 = .ok (.goto 4, 3) := by decide +kernel
theorem dX7_hasKept_16 : decode cX7_hasKept 16 = .ok (.iconst 0, 1) := by decide +kernel
theorem dX7_hasKept_17 : decode cX7_hasKept 17 = .ok (.ireturn, 1) := by decide +kernel
theorem hin_X7_hasKept_X7 : ∀ w ∈ wsX70, w ∈ wsX7_hasKept := by decide +kernel
theorem lk_X7_hasKept_33 : Cond.fieldLink RX7 33 RX7 "has" "[I" ∈ wsX7_hasKept := by decide +kernel
theorem c_hasKept (hG : GP G) (hc : StS S c) (hR : R32 mu) {i : Int} : Ct G l yX7_hasKept wsX7_hasKept 1 0 0 [.ref c, .int (I32 i)] S n mu la (Dt (some (.int (I32 (hkF mu c i)))) S n mu la) := by
  have o7 := hc.1
  have h9 := R32_gK hR (c + 12) 4 i
  refine Ct.ofV (cc := cX7_hasKept) (nL := 2) (ret := (some .boolean)) [some (.ref c), some (.int (I32 i))] hG (by decide) rfl (Nat.le_of_ble_eq_true rfl) rfl ?_
  rintro X rfl rfl C hcl hsl E
  refine V_aload_n C dX7_hasKept_0 rfl ?_
  refine V_getR C 6 dX7_hasKept_1 o7 rfl hin_X7_hasKept_X7 (by decide) lk_X7_hasKept_33 rfl rfl ?_
  refine V_iload_n C dX7_hasKept_4 rfl ?_
  refine V_callSND (nA := 2) (host := "DockTree") C dX7_hasKept_5 (c_atW C.gp hc.2.2.2.2.1 (by decide)) gX7_hasKept_X8_at_n55 (by decide +kernel) (by decide +kernel) (by decide +kernel) rfl (by decide +kernel) rfl (by decide) (by decide) (Nat.le_of_ble_eq_true rfl) ⟨by omega, by omega⟩ rfl ?_
  refine V_iconst C dX7_hasKept_8 ?_
  refine V_icmp_ne C 16 dX7_hasKept_9 (by decide) (by omega) (by omega) (fun q => ?_) (fun q => ?_)
  · refine V_iconst C dX7_hasKept_16 ?_
    refine V_zreturn C E (Or.inl rfl) dX7_hasKept_17 (by omega) (by omega) ?_
    rw [hkF, if_neg q]; exact Dt_rfl
  · refine V_iconst C dX7_hasKept_12 ?_
    refine V_goto C 17 dX7_hasKept_13 (by decide) ?_
    refine V_zreturn C E (Or.inr rfl) dX7_hasKept_17 (by omega) (by omega) ?_
    rw [hkF, if_pos q]; exact Dt_rfl
theorem dX7_keptAt_0 : decode cX7_keptAt 0 = .ok (.iload_n 1, 1) := by decide +kernel
theorem dX7_keptAt_1 : decode cX7_keptAt 1 = .ok (.ifCond .lt 21, 3) := by decide +kernel
theorem dX7_keptAt_4 : decode cX7_keptAt 4 = .ok (.iload_n 1, 1) := by decide +kernel
theorem dX7_keptAt_5 : decode cX7_keptAt 5 = .ok (.aload_n 0, 1) := by decide +kernel
theorem dX7_keptAt_6 : decode cX7_keptAt 6 = .ok (.getfield 29, 3) := by decide +kernel
theorem dX7_keptAt_9 : decode cX7_keptAt 9 = .ok (.arraylength, 1) := by decide +kernel
theorem dX7_keptAt_10 : decode cX7_keptAt 10 = .ok (.if_icmp .ge 12, 3) := by decide +kernel
theorem dX7_keptAt_13 : decode cX7_keptAt 13 = .ok (.aload_n 0, 1) := by decide +kernel
theorem dX7_keptAt_14 : decode cX7_keptAt 14 = .ok (.getfield 29, 3) := by decide +kernel
theorem dX7_keptAt_17 : decode cX7_keptAt 17 = .ok (.iload_n 1, 1) := by decide +kernel
theorem dX7_keptAt_18 : decode cX7_keptAt 18 = .ok (.aaload, 1) := by decide +kernel
theorem dX7_keptAt_19 : decode cX7_keptAt 19 = .ok (.goto 4, 3) := by decide +kernel
theorem dX7_keptAt_22 : decode cX7_keptAt 22 = .ok (.aconst_null, 1) := by decide +kernel
theorem dX7_keptAt_23 : decode cX7_keptAt 23 = .ok (.areturn, 1) := by decide +kernel
theorem hin_X7_keptAt_X7 : ∀ w ∈ wsX70, w ∈ wsX7_keptAt := by decide +kernel
theorem lk_X7_keptAt_29 : Cond.fieldLink RX7 29 RX7 "kept" "[LDockTree$Layout;" ∈ wsX7_keptAt := by decide +kernel
theorem c_keptAt (hG : GP G) (hc : StS S c) {j : Nat} (hj : j < 4) : Ct G l yX7_keptAt wsX7_keptAt 0 0 0 [.ref c, .int (I32 (j : Int))] S n mu la (Dt (some (.ref (c + 13 + 9 * j))) S n mu la) := by
  have o7 := hc.1
  refine Ct.ofV (cc := cX7_keptAt) (nL := 2) (ret := (some (.object "DockTree$Layout"))) [some (.ref c), some (.int (I32 (j : Int)))] hG (by decide) rfl (Nat.le_of_ble_eq_true rfl) rfl ?_
  rintro X rfl rfl C hcl hsl E
  refine V_iload_n C dX7_keptAt_0 rfl ?_
  refine V_if_lt C 22 dX7_keptAt_1 (by decide) (by omega) (fun z => ?_) (fun z => ?_)
  · exact absurd z (by omega)
  · refine V_iload_n C dX7_keptAt_4 rfl ?_
    refine V_aload_n C dX7_keptAt_5 rfl ?_
    refine V_getR C 5 dX7_keptAt_6 o7 rfl hin_X7_keptAt_X7 (by decide) lk_X7_keptAt_29 rfl rfl ?_
    refine V_alenR C dX7_keptAt_9 hc.2.2.2.1 ?_
    refine V_icmp_ge C 22 dX7_keptAt_10 (by decide) (by omega) (by omega) (fun z2 => ?_) (fun z2 => ?_)
    · exact absurd z2 (by omega)
    · refine V_aload_n C dX7_keptAt_13 rfl ?_
      refine V_getR C 5 dX7_keptAt_14 o7 rfl hin_X7_keptAt_X7 (by decide) lk_X7_keptAt_29 rfl rfl ?_
      refine V_iload_n C dX7_keptAt_17 rfl ?_
      refine V_aald C dX7_keptAt_18 hc.2.2.2.1 (by decide) (by omega) rfl ?_
      refine V_goto C 23 dX7_keptAt_19 (by decide) ?_
      rw [Int.toNat_natCast]
      refine V_areturn C (Or.inl ⟨_, rfl⟩) E (Or.inr ⟨_, rfl⟩) dX7_keptAt_23 (by omega) (by omega) ?_
      exact Dt_rfl
def kpM (mu : Mem) (c j : Nat) : Mem := sK (cp8 mu (c + 2) (c + 13 + 9 * j) 8) (c + 12) 4 j 1
def tpM (mu : Mem) (c j : Nat) : Mem := cp8 mu (c + 13 + 9 * j) (c + 2) 8
set_option maxRecDepth 20000 in
theorem ggX7_copyFrom_X8_copyRow : GoodIn wsX7_copyFrom wsX8_copyRow := goodIn_r _ [9, 10, 11, 12, 13, 14, 15, 16, 17] (by decide +kernel) (by decide +kernel)
set_option maxRecDepth 20000 in
theorem gX7_copyFrom_X8_copyRow_n39 : GoodIn wsX7_copyFrom (wsX8_copyRow) := ggX7_copyFrom_X8_copyRow
set_option maxRecDepth 20000 in
theorem ggX7_copyFrom_X4_copyFrom : GoodIn wsX7_copyFrom wsX4_copyFrom := goodIn_r _ [22, 23, 24, 25, 26, 27, 28, 29, 30, 7, 8, 9, 10, 11, 12, 13, 14, 15, 16, 17, 50, 51, 52, 53, 54, 55, 56, 57] (by decide +kernel) (by decide +kernel)
set_option maxRecDepth 20000 in
theorem gX7_copyFrom_X4_copyFrom : GoodIn wsX7_copyFrom (wsV RX7 43 RX4 yX4_copyFrom wsX4_copyFrom) := goodIn_app (goodIn_of _ (by decide +kernel)) ggX7_copyFrom_X4_copyFrom
set_option maxRecDepth 20000 in
theorem ggX7_copyFrom_X7_keptAt : GoodIn wsX7_copyFrom wsX7_keptAt := goodIn_r _ [35, 36, 43, 44, 45, 46, 47, 48, 49] (by decide +kernel) (by decide +kernel)
set_option maxRecDepth 20000 in
theorem gX7_copyFrom_X7_keptAt : GoodIn wsX7_copyFrom (wsV RX7 47 RX7 yX7_keptAt wsX7_keptAt) := goodIn_app (goodIn_of _ (by decide +kernel)) ggX7_copyFrom_X7_keptAt
set_option maxRecDepth 20000 in
theorem ggX7_copyFrom_X7_hasKept : GoodIn wsX7_copyFrom wsX7_hasKept := goodIn_r _ [40, 6, 41, 8, 42, 43, 44, 45, 46, 47, 48, 49] (by decide +kernel) (by decide +kernel)
set_option maxRecDepth 20000 in
theorem gX7_copyFrom_X7_hasKept : GoodIn wsX7_copyFrom (wsV RX7 51 RX7 yX7_hasKept wsX7_hasKept) := goodIn_app (goodIn_of _ (by decide +kernel)) ggX7_copyFrom_X7_hasKept
theorem dX7_copyFrom_0 : decode cX7_copyFrom 0 = .ok (.aload_n 0, 1) := by decide +kernel
theorem dX7_copyFrom_1 : decode cX7_copyFrom 1 = .ok (.aload_n 1, 1) := by decide +kernel
theorem dX7_copyFrom_2 : decode cX7_copyFrom 2 = .ok (.getfield 9, 3) := by decide +kernel
theorem dX7_copyFrom_5 : decode cX7_copyFrom 5 = .ok (.putfield 9, 3) := by decide +kernel
theorem dX7_copyFrom_8 : decode cX7_copyFrom 8 = .ok (.aload_n 0, 1) := by decide +kernel
theorem dX7_copyFrom_9 : decode cX7_copyFrom 9 = .ok (.aload_n 1, 1) := by decide +kernel
theorem dX7_copyFrom_10 : decode cX7_copyFrom 10 = .ok (.getfield 15, 3) := by decide +kernel
theorem dX7_copyFrom_13 : decode cX7_copyFrom 13 = .ok (.putfield 15, 3) := by decide +kernel
theorem dX7_copyFrom_16 : decode cX7_copyFrom 16 = .ok (.aload_n 0, 1) := by decide +kernel
theorem dX7_copyFrom_17 : decode cX7_copyFrom 17 = .ok (.aload_n 1, 1) := by decide +kernel
theorem dX7_copyFrom_18 : decode cX7_copyFrom 18 = .ok (.getfield 36, 3) := by decide +kernel
theorem dX7_copyFrom_21 : decode cX7_copyFrom 21 = .ok (.putfield 36, 3) := by decide +kernel
theorem dX7_copyFrom_24 : decode cX7_copyFrom 24 = .ok (.aload_n 1, 1) := by decide +kernel
theorem dX7_copyFrom_25 : decode cX7_copyFrom 25 = .ok (.getfield 18, 3) := by decide +kernel
theorem dX7_copyFrom_28 : decode cX7_copyFrom 28 = .ok (.aload_n 0, 1) := by decide +kernel
theorem dX7_copyFrom_29 : decode cX7_copyFrom 29 = .ok (.getfield 18, 3) := by decide +kernel
theorem dX7_copyFrom_32 : decode cX7_copyFrom 32 = .ok (.invokestatic 39, 3) := by decide +kernel
theorem dX7_copyFrom_35 : decode cX7_copyFrom 35 = .ok (.aload_n 0, 1) := by decide +kernel
theorem dX7_copyFrom_36 : decode cX7_copyFrom 36 = .ok (.getfield 25, 3) := by decide +kernel
theorem dX7_copyFrom_39 : decode cX7_copyFrom 39 = .ok (.aload_n 1, 1) := by decide +kernel
theorem dX7_copyFrom_40 : decode cX7_copyFrom 40 = .ok (.getfield 25, 3) := by decide +kernel
theorem dX7_copyFrom_43 : decode cX7_copyFrom 43 = .ok (.invokevirtual 43, 3) := by decide +kernel
theorem dX7_copyFrom_46 : decode cX7_copyFrom 46 = .ok (.aload_n 1, 1) := by decide +kernel
theorem dX7_copyFrom_47 : decode cX7_copyFrom 47 = .ok (.getfield 33, 3) := by decide +kernel
theorem dX7_copyFrom_50 : decode cX7_copyFrom 50 = .ok (.aload_n 0, 1) := by decide +kernel
theorem dX7_copyFrom_51 : decode cX7_copyFrom 51 = .ok (.getfield 33, 3) := by decide +kernel
theorem dX7_copyFrom_54 : decode cX7_copyFrom 54 = .ok (.invokestatic 39, 3) := by decide +kernel
theorem dX7_copyFrom_57 : decode cX7_copyFrom 57 = .ok (.iconst 0, 1) := by decide +kernel
theorem dX7_copyFrom_58 : decode cX7_copyFrom 58 = .ok (.istore_n 2, 1) := by decide +kernel
theorem dX7_copyFrom_59 : decode cX7_copyFrom 59 = .ok (.iload_n 2, 1) := by decide +kernel
theorem dX7_copyFrom_60 : decode cX7_copyFrom 60 = .ok (.iconst 4, 1) := by decide +kernel
theorem dX7_copyFrom_61 : decode cX7_copyFrom 61 = .ok (.if_icmp .ge 45, 3) := by decide +kernel
theorem dX7_copyFrom_64 : decode cX7_copyFrom 64 = .ok (.aload_n 1, 1) := by decide +kernel
theorem dX7_copyFrom_65 : decode cX7_copyFrom 65 = .ok (.iload_n 2, 1) := by decide +kernel
theorem dX7_copyFrom_66 : decode cX7_copyFrom 66 = .ok (.invokevirtual 47, 3) := by decide +kernel
theorem dX7_copyFrom_69 : decode cX7_copyFrom 69 = .ok (.astore_n 3, 1) := by decide +kernel
theorem dX7_copyFrom_70 : decode cX7_copyFrom 70 = .ok (.aload_n 0, 1) := by decide +kernel
theorem dX7_copyFrom_71 : decode cX7_copyFrom 71 = .ok (.iload_n 2, 1) := by decide +kernel
theorem dX7_copyFrom_72 : decode cX7_copyFrom 72 = .ok (.invokevirtual 47, 3) := by decide +kernel
theorem dX7_copyFrom_75 : decode cX7_copyFrom 75 = .ok (.astore 4, 2) := by decide +kernel
theorem dX7_copyFrom_77 : decode cX7_copyFrom 77 = .ok (.aload_n 0, 1) := by decide +kernel
theorem dX7_copyFrom_78 : decode cX7_copyFrom 78 = .ok (.iload_n 2, 1) := by decide +kernel
theorem dX7_copyFrom_79 : decode cX7_copyFrom 79 = .ok (.invokevirtual 51, 3) := by decide +kernel
theorem dX7_copyFrom_82 : decode cX7_copyFrom 82 = .ok (.ifCond .eq 18, 3) := by decide +kernel
theorem dX7_copyFrom_85 : decode cX7_copyFrom 85 = .ok (.aload_n 3, 1) := by decide +kernel
theorem dX7_copyFrom_86 : decode cX7_copyFrom 86 = .ok (.ifnull 14, 3) := by decide +kernel
theorem dX7_copyFrom_89 : decode cX7_copyFrom 89 = .ok (.aload 4, 2) := by decide +kernel
theorem dX7_copyFrom_91 : decode cX7_copyFrom 91 = .ok (.ifnull 9, 3) := by decide +kernel
theorem dX7_copyFrom_94 : decode cX7_copyFrom 94 = .ok (.aload 4, 2) := by decide +kernel
theorem dX7_copyFrom_96 : decode cX7_copyFrom 96 = .ok (.aload_n 3, 1) := by decide +kernel
theorem dX7_copyFrom_97 : decode cX7_copyFrom 97 = .ok (.invokevirtual 43, 3) := by decide +kernel
theorem dX7_copyFrom_100 : decode cX7_copyFrom 100 = .ok (.iinc 2 1, 3) := by decide +kernel
theorem dX7_copyFrom_103 : decode cX7_copyFrom 103 = .ok (.goto (-44), 3) := by decide +kernel
theorem dX7_copyFrom_106 : decode cX7_copyFrom 106 = .ok (.return_, 1) := by decide +kernel
theorem hin_X7_copyFrom_X7 : ∀ w ∈ wsX70, w ∈ wsX7_copyFrom := by decide +kernel
theorem lk_X7_copyFrom_9 : Cond.fieldLink RX7 9 RX7 "width" "I" ∈ wsX7_copyFrom := by decide +kernel
theorem lk_X7_copyFrom_15 : Cond.fieldLink RX7 15 RX7 "height" "I" ∈ wsX7_copyFrom := by decide +kernel
theorem lk_X7_copyFrom_36 : Cond.fieldLink RX7 36 RX7 "panes" "I" ∈ wsX7_copyFrom := by decide +kernel
theorem lk_X7_copyFrom_18 : Cond.fieldLink RX7 18 RX7 "least" "[I" ∈ wsX7_copyFrom := by decide +kernel
theorem lk_X7_copyFrom_25 : Cond.fieldLink RX7 25 RX7 "layout" "LDockTree$Layout;" ∈ wsX7_copyFrom := by decide +kernel
theorem lk_X7_copyFrom_33 : Cond.fieldLink RX7 33 RX7 "has" "[I" ∈ wsX7_copyFrom := by decide +kernel
theorem c_stCopy (hG : GP G) (hc : StS S c) (hd : StS S d) (hcd : c ≠ d) (hR : R32 mu) : Ct G l yX7_copyFrom wsX7_copyFrom 3 0 0 [.ref c, .ref d] S n mu la (Dt none S n (stC mu d c) la) := by
  have o7 := hc.1
  have o7d := hd.1
  have hdc : d ≠ c := fun h => hcd h.symm
  refine Ct.ofV (cc := cX7_copyFrom) (nL := 5) (ret := none) [some (.ref c), some (.ref d), none, none, none] hG (by decide) rfl (Nat.le_of_ble_eq_true rfl) rfl ?_
  rintro X rfl rfl C hcl hsl E
  have loop : ∀ (r j : Nat) (w3 w4 : Option Value), j + r = 4 → V X 59 [some (.ref c), some (.ref d), some (.int (I32 (j : Int))), w3, w4] [] S n (stK mu d c j) la 0 0 := by
    intro r
    induction r with
    | zero =>
      intro j w3 w4 hj
      have e : j = 4 := by omega
      subst e
      refine V_iload_n C dX7_copyFrom_59 rfl ?_
      refine V_iconst C dX7_copyFrom_60 ?_
      refine V_icmp_ge C 106 dX7_copyFrom_61 (by decide) (by omega) (by omega) (fun z => ?_) (fun z => ?_)
      · refine V_return C E dX7_copyFrom_106 (by omega) (by omega) ?_
        exact Dt_rfl
      · exact absurd z (by omega)
    | succ r ih =>
      intro j w3 w4 hj
      have hn : ((j + 1 : Nat) : Int) = (j : Int) + 1 := by omega
      have hk := hkF_b (stK mu d c j) c j
      have h8 := ih (j + 1) (some (.ref (d + 13 + 9 * j))) (some (.ref (c + 13 + 9 * j))) (by omega)
      rw [hn, stK] at h8
      refine V_iload_n C dX7_copyFrom_59 rfl ?_
      refine V_iconst C dX7_copyFrom_60 ?_
      refine V_icmp_ge C 106 dX7_copyFrom_61 (by decide) (by omega) (by omega) (fun z => ?_) (fun z => ?_)
      · exact absurd z (by omega)
      · refine V_aload_n C dX7_copyFrom_64 rfl ?_
        refine V_iload_n C dX7_copyFrom_65 rfl ?_
        refine V_callVD (nA := 1) C dX7_copyFrom_66 (c_keptAt C.gp hd (by omega)) gX7_copyFrom_X7_keptAt rfl o7d rfl (by decide +kernel) rfl (by decide) (by decide) (Nat.le_of_ble_eq_true rfl) ⟨by omega, by omega⟩ rfl ?_
        refine V_astore_n C dX7_copyFrom_69 rfl (by decide) ?_
        refine V_aload_n C dX7_copyFrom_70 rfl ?_
        refine V_iload_n C dX7_copyFrom_71 rfl ?_
        refine V_callVD (nA := 1) C dX7_copyFrom_72 (c_keptAt C.gp hc (by omega)) gX7_copyFrom_X7_keptAt rfl o7 rfl (by decide +kernel) rfl (by decide) (by decide) (Nat.le_of_ble_eq_true rfl) ⟨by omega, by omega⟩ rfl ?_
        refine V_astore C dX7_copyFrom_75 rfl (by decide) ?_
        refine V_aload_n C dX7_copyFrom_77 rfl ?_
        refine V_iload_n C dX7_copyFrom_78 rfl ?_
        refine V_callVD (nA := 1) C dX7_copyFrom_79 (c_hasKept C.gp hc (R32_stK hR d c j)) gX7_copyFrom_X7_hasKept rfl o7 rfl (by decide +kernel) rfl (by decide) (by decide) (Nat.le_of_ble_eq_true rfl) ⟨by omega, by omega⟩ rfl ?_
        refine V_if_eq C 100 dX7_copyFrom_82 (by decide) (by omega) (fun z2 => ?_) (fun z2 => ?_)
        · rw [if_neg (fun y => by rw [hkF, if_pos y] at z2; omega)] at h8
          refine V_iinc C dX7_copyFrom_100 rfl rfl (by decide) ?_
          refine V_goto C 59 dX7_copyFrom_103 (by decide) ?_
          exact h8
        · rw [if_pos (by by_cases y : gK (stK mu d c j) (c + 12) 4 j = 1; exact y; rw [hkF, if_neg y] at z2; omega)] at h8
          refine V_aload_n C dX7_copyFrom_85 rfl ?_
          refine V_ifnull C dX7_copyFrom_86 ?_
          refine V_aload C dX7_copyFrom_89 rfl ?_
          refine V_ifnull C dX7_copyFrom_91 ?_
          refine V_aload C dX7_copyFrom_94 rfl ?_
          refine V_aload_n C dX7_copyFrom_96 rfl ?_
          refine V_callVD (nA := 1) C dX7_copyFrom_97 (c_copyFrom0 C.gp (hc.2.2.2.2.2 j (by omega)) (hd.2.2.2.2.2 j (by omega))) gX7_copyFrom_X4_copyFrom rfl (hc.2.2.2.2.2 j (by omega)).1 rfl (by decide +kernel) rfl (by decide) (by decide) (Nat.le_of_ble_eq_true rfl) ⟨by omega, by omega⟩ rfl ?_
          refine V_iinc C dX7_copyFrom_100 rfl rfl (by decide) ?_
          refine V_goto C 59 dX7_copyFrom_103 (by decide) ?_
          exact h8
  refine V_aload_n C dX7_copyFrom_0 rfl ?_
  refine V_aload_n C dX7_copyFrom_1 rfl ?_
  refine V_getJ C 0 0 rfl dX7_copyFrom_2 o7d rfl hin_X7_copyFrom_X7 (by decide) lk_X7_copyFrom_9 rfl rfl rfl ?_
  refine V_putJ C 0 0 rfl dX7_copyFrom_5 o7 rfl hin_X7_copyFrom_X7 tyX7 tyX7_ok nmX7 (by decide) lk_X7_copyFrom_9 rfl rfl (by decide +kernel) rfl rfl ?_
  refine V_aload_n C dX7_copyFrom_8 rfl ?_
  refine V_aload_n C dX7_copyFrom_9 rfl ?_
  refine V_getJ C 1 1 rfl dX7_copyFrom_10 o7d rfl hin_X7_copyFrom_X7 (by decide) lk_X7_copyFrom_15 rfl rfl (up_a _ _ _ _ hdc) ?_
  refine V_putJ C 1 1 rfl dX7_copyFrom_13 o7 rfl hin_X7_copyFrom_X7 tyX7 tyX7_ok nmX7 (by decide) lk_X7_copyFrom_15 rfl rfl (by decide +kernel) rfl rfl ?_
  refine V_aload_n C dX7_copyFrom_16 rfl ?_
  refine V_aload_n C dX7_copyFrom_17 rfl ?_
  refine V_getJ C 2 2 rfl dX7_copyFrom_18 o7d rfl hin_X7_copyFrom_X7 (by decide) lk_X7_copyFrom_36 rfl rfl ((up_a _ _ _ _ hdc).trans (up_a _ _ _ _ hdc)) ?_
  refine V_putJ C 2 2 rfl dX7_copyFrom_21 o7 rfl hin_X7_copyFrom_X7 tyX7 tyX7_ok nmX7 (by decide) lk_X7_copyFrom_36 rfl rfl (by decide +kernel) rfl rfl ?_
  refine V_aload_n C dX7_copyFrom_24 rfl ?_
  refine V_getR C 3 dX7_copyFrom_25 o7d rfl hin_X7_copyFrom_X7 (by decide) lk_X7_copyFrom_18 rfl rfl ?_
  refine V_aload_n C dX7_copyFrom_28 rfl ?_
  refine V_getR C 3 dX7_copyFrom_29 o7 rfl hin_X7_copyFrom_X7 (by decide) lk_X7_copyFrom_18 rfl rfl ?_
  refine V_callSND (nA := 2) (host := "DockTree") C dX7_copyFrom_32 (c_copyRow C.gp hd.2.1 hc.2.1 (by decide)) gX7_copyFrom_X8_copyRow_n39 (by decide +kernel) (by decide +kernel) (by decide +kernel) rfl (by decide +kernel) rfl (by decide) (by decide) (Nat.le_of_ble_eq_true rfl) ⟨by omega, by omega⟩ rfl ?_
  refine V_aload_n C dX7_copyFrom_35 rfl ?_
  refine V_getR C 4 dX7_copyFrom_36 o7 rfl hin_X7_copyFrom_X7 (by decide) lk_X7_copyFrom_25 rfl rfl ?_
  refine V_aload_n C dX7_copyFrom_39 rfl ?_
  refine V_getR C 4 dX7_copyFrom_40 o7d rfl hin_X7_copyFrom_X7 (by decide) lk_X7_copyFrom_25 rfl rfl ?_
  refine V_callVD (nA := 1) C dX7_copyFrom_43 (c_copyFrom0 C.gp hc.2.2.1 hd.2.2.1) gX7_copyFrom_X4_copyFrom rfl (hc.2.2.1).1 rfl (by decide +kernel) rfl (by decide) (by decide) (Nat.le_of_ble_eq_true rfl) ⟨by omega, by omega⟩ rfl ?_
  refine V_aload_n C dX7_copyFrom_46 rfl ?_
  refine V_getR C 6 dX7_copyFrom_47 o7d rfl hin_X7_copyFrom_X7 (by decide) lk_X7_copyFrom_33 rfl rfl ?_
  refine V_aload_n C dX7_copyFrom_50 rfl ?_
  refine V_getR C 6 dX7_copyFrom_51 o7 rfl hin_X7_copyFrom_X7 (by decide) lk_X7_copyFrom_33 rfl rfl ?_
  refine V_callSND (nA := 2) (host := "DockTree") C dX7_copyFrom_54 (c_copyRow C.gp hd.2.2.2.2.1 hc.2.2.2.2.1 (by decide)) gX7_copyFrom_X8_copyRow_n39 (by decide +kernel) (by decide +kernel) (by decide +kernel) rfl (by decide +kernel) rfl (by decide) (by decide) (Nat.le_of_ble_eq_true rfl) ⟨by omega, by omega⟩ rfl ?_
  refine V_iconst C dX7_copyFrom_57 ?_
  refine V_istore_n C dX7_copyFrom_58 rfl (by decide) ?_
  exact loop 4 0 none none (by omega)
end SW
def HiS (S : Sh) (h : Nat) : Prop :=
  hasS S h (.inr (.inr (1, [.inl (.ref (h + 1)), .inr 0, .inr 0]))) ∧ hasS S (h + 1) (.inr (.inl (1, 4, fun k => some (h + 2 + 49 * k)))) ∧ ∀ k, k < 4 → StS S (h + 2 + 49 * k)
def pshM (mu : Mem) (c h : Nat) : Mem :=
  let m := stC mu c (h + 2 + 49 * (mu h 2).toNat)
  up (up m h 2 (if mu h 2 + 1 < 4 then mu h 2 + 1 else 0)) h 1 (min (mu h 1 + 1) 4)
def popJ (mu : Mem) (h : Nat) : Int := if 0 < mu h 2 then mu h 2 - 1 else 3
def popM (mu : Mem) (c h : Nat) : Mem := up (up (stC mu (h + 2 + 49 * (popJ mu h).toNat) c) h 2 (popJ mu h)) h 1 (mu h 1 - 1)
section HW
variable {G : Gx} {l : Launch} {S : Sh} {n : Nat} {mu : Mem} {la : Lam} {c h : Nat}
theorem dX3_savedAt_0 : decode cX3_savedAt 0 = .ok (.iload_n 1, 1) := by decide +kernel
theorem dX3_savedAt_1 : decode cX3_savedAt 1 = .ok (.ifCond .lt 21, 3) := by decide +kernel
theorem dX3_savedAt_4 : decode cX3_savedAt 4 = .ok (.iload_n 1, 1) := by decide +kernel
theorem dX3_savedAt_5 : decode cX3_savedAt 5 = .ok (.aload_n 0, 1) := by decide +kernel
theorem dX3_savedAt_6 : decode cX3_savedAt 6 = .ok (.getfield 11, 3) := by decide +kernel
theorem dX3_savedAt_9 : decode cX3_savedAt 9 = .ok (.arraylength, 1) := by decide +kernel
theorem dX3_savedAt_10 : decode cX3_savedAt 10 = .ok (.if_icmp .ge 12, 3) := by decide +kernel
theorem dX3_savedAt_13 : decode cX3_savedAt 13 = .ok (.aload_n 0, 1) := by decide +kernel
theorem dX3_savedAt_14 : decode cX3_savedAt 14 = .ok (.getfield 11, 3) := by decide +kernel
theorem dX3_savedAt_17 : decode cX3_savedAt 17 = .ok (.iload_n 1, 1) := by decide +kernel
theorem dX3_savedAt_18 : decode cX3_savedAt 18 = .ok (.aaload, 1) := by decide +kernel
theorem dX3_savedAt_19 : decode cX3_savedAt 19 = .ok (.goto 4, 3) := by decide +kernel
theorem dX3_savedAt_22 : decode cX3_savedAt 22 = .ok (.aconst_null, 1) := by decide +kernel
theorem dX3_savedAt_23 : decode cX3_savedAt 23 = .ok (.areturn, 1) := by decide +kernel
theorem hin_X3_savedAt_X3 : ∀ w ∈ wsX30, w ∈ wsX3_savedAt := by decide +kernel
theorem lk_X3_savedAt_11 : Cond.fieldLink RX3 11 RX3 "saved" "[LDockTree$State;" ∈ wsX3_savedAt := by decide +kernel
theorem c_savedAt (hG : GP G) (hh : HiS S h) {j : Nat} (hj : j < 4) : Ct G l yX3_savedAt wsX3_savedAt 0 0 0 [.ref h, .int (I32 (j : Int))] S n mu la (Dt (some (.ref (h + 2 + 49 * j))) S n mu la) := by
  have o3 := hh.1
  refine Ct.ofV (cc := cX3_savedAt) (nL := 2) (ret := (some (.object "DockTree$State"))) [some (.ref h), some (.int (I32 (j : Int)))] hG (by decide) rfl (Nat.le_of_ble_eq_true rfl) rfl ?_
  rintro X rfl rfl C hcl hsl E
  refine V_iload_n C dX3_savedAt_0 rfl ?_
  refine V_if_lt C 22 dX3_savedAt_1 (by decide) (by omega) (fun z => ?_) (fun z => ?_)
  · exact absurd z (by omega)
  · refine V_iload_n C dX3_savedAt_4 rfl ?_
    refine V_aload_n C dX3_savedAt_5 rfl ?_
    refine V_getR C 0 dX3_savedAt_6 o3 rfl hin_X3_savedAt_X3 (by decide) lk_X3_savedAt_11 rfl rfl ?_
    refine V_alenR C dX3_savedAt_9 hh.2.1 ?_
    refine V_icmp_ge C 22 dX3_savedAt_10 (by decide) (by omega) (by omega) (fun z2 => ?_) (fun z2 => ?_)
    · exact absurd z2 (by omega)
    · refine V_aload_n C dX3_savedAt_13 rfl ?_
      refine V_getR C 0 dX3_savedAt_14 o3 rfl hin_X3_savedAt_X3 (by decide) lk_X3_savedAt_11 rfl rfl ?_
      refine V_iload_n C dX3_savedAt_17 rfl ?_
      refine V_aald C dX3_savedAt_18 hh.2.1 (by decide) (by omega) rfl ?_
      refine V_goto C 23 dX3_savedAt_19 (by decide) ?_
      rw [Int.toNat_natCast]
      refine V_areturn C (Or.inl ⟨_, rfl⟩) E (Or.inr ⟨_, rfl⟩) dX3_savedAt_23 (by omega) (by omega) ?_
      exact Dt_rfl
set_option maxRecDepth 20000 in
theorem ggX3_push_X3_savedAt : GoodIn wsX3_push wsX3_savedAt := goodIn_r _ [11, 12, 56, 57, 58] (by decide +kernel) (by decide +kernel)
set_option maxRecDepth 20000 in
theorem gX3_push_X3_savedAt : GoodIn wsX3_push (wsV RX3 25 RX3 yX3_savedAt wsX3_savedAt) := goodIn_app (goodIn_of _ (by decide +kernel)) ggX3_push_X3_savedAt
set_option maxRecDepth 20000 in
theorem ggX3_push_X7_copyFrom : GoodIn wsX3_push wsX7_copyFrom := goodIn_r _ [17, 18, 19, 20, 21, 22, 23, 24, 25, 26, 27, 4, 5, 6, 28, 29, 30, 31, 32, 33, 34, 35, 36, 37, 38, 39, 40, 41, 42, 43, 44, 45, 46, 47, 16, 48, 49, 50, 51, 52, 53, 54, 55, 59, 60, 61, 62, 63, 64, 65, 66, 67, 68, 69, 70, 71, 72, 73] (by decide +kernel) (by decide +kernel)
set_option maxRecDepth 20000 in
theorem gX3_push_X7_copyFrom : GoodIn wsX3_push (wsV RX3 29 RX7 yX7_copyFrom wsX7_copyFrom) := goodIn_app (goodIn_of _ (by decide +kernel)) ggX3_push_X7_copyFrom
theorem dX3_push_0 : decode cX3_push 0 = .ok (.aload_n 0, 1) := by decide +kernel
theorem dX3_push_1 : decode cX3_push 1 = .ok (.aload_n 0, 1) := by decide +kernel
theorem dX3_push_2 : decode cX3_push 2 = .ok (.getfield 22, 3) := by decide +kernel
theorem dX3_push_5 : decode cX3_push 5 = .ok (.invokevirtual 25, 3) := by decide +kernel
theorem dX3_push_8 : decode cX3_push 8 = .ok (.astore_n 2, 1) := by decide +kernel
theorem dX3_push_9 : decode cX3_push 9 = .ok (.aload_n 2, 1) := by decide +kernel
theorem dX3_push_10 : decode cX3_push 10 = .ok (.ifnull 46, 3) := by decide +kernel
theorem dX3_push_13 : decode cX3_push 13 = .ok (.aload_n 2, 1) := by decide +kernel
theorem dX3_push_14 : decode cX3_push 14 = .ok (.aload_n 1, 1) := by decide +kernel
theorem dX3_push_15 : decode cX3_push 15 = .ok (.invokevirtual 29, 3) := by decide +kernel
theorem dX3_push_18 : decode cX3_push 18 = .ok (.aload_n 0, 1) := by decide +kernel
theorem dX3_push_19 : decode cX3_push 19 = .ok (.aload_n 0, 1) := by decide +kernel
theorem dX3_push_20 : decode cX3_push 20 = .ok (.getfield 22, 3) := by decide +kernel
theorem dX3_push_23 : decode cX3_push 23 = .ok (.iconst 1, 1) := by decide +kernel
theorem dX3_push_24 : decode cX3_push 24 = .ok (.iadd, 1) := by decide +kernel
theorem dX3_push_25 : decode cX3_push 25 = .ok (.iconst 4, 1) := by decide +kernel
theorem dX3_push_26 : decode cX3_push 26 = .ok (.if_icmp .ge 12, 3) := by decide +kernel
theorem dX3_push_29 : decode cX3_push 29 = .ok (.aload_n 0, 1) := by decide +kernel
theorem dX3_push_30 : decode cX3_push 30 = .ok (.getfield 22, 3) := by decide +kernel
theorem dX3_push_33 : decode cX3_push 33 = .ok (.iconst 1, 1) := by decide +kernel
theorem dX3_push_34 : decode cX3_push 34 = .ok (.iadd, 1) := by decide +kernel
theorem dX3_push_35 : decode cX3_push 35 = .ok (.goto 4, 3) := by decide +kernel
theorem dX3_push_38 : decode cX3_push 38 = .ok (.iconst 0, 1) := by decide +kernel
theorem dX3_push_39 : decode cX3_push 39 = .ok (.putfield 22, 3) := by decide +kernel
theorem dX3_push_42 : decode cX3_push 42 = .ok (.aload_n 0, 1) := by decide +kernel
theorem dX3_push_43 : decode cX3_push 43 = .ok (.aload_n 0, 1) := by decide +kernel
theorem dX3_push_44 : decode cX3_push 44 = .ok (.getfield 18, 3) := by decide +kernel
theorem dX3_push_47 : decode cX3_push 47 = .ok (.iconst 1, 1) := by decide +kernel
theorem dX3_push_48 : decode cX3_push 48 = .ok (.iadd, 1) := by decide +kernel
theorem dX3_push_49 : decode cX3_push 49 = .ok (.iconst 4, 1) := by decide +kernel
theorem dX3_push_50 : decode cX3_push 50 = .ok (.invokestatic 33, 3) := by decide +kernel
theorem dX3_push_53 : decode cX3_push 53 = .ok (.putfield 18, 3) := by decide +kernel
theorem dX3_push_56 : decode cX3_push 56 = .ok (.return_, 1) := by decide +kernel
theorem hin_X3_push_X3 : ∀ w ∈ wsX30, w ∈ wsX3_push := by decide +kernel
theorem lk_X3_push_22 : Cond.fieldLink RX3 22 RX3 "next" "I" ∈ wsX3_push := by decide +kernel
theorem lk_X3_push_18 : Cond.fieldLink RX3 18 RX3 "depth" "I" ∈ wsX3_push := by decide +kernel
theorem c_push (hG : GP G) (hh : HiS S h) (hc : StS S c) (hd : c + 49 ≤ h ∨ h + 198 ≤ c) (hR : R32 mu) (hn : 0 ≤ mu h 2 ∧ mu h 2 < 4) (hz : 0 ≤ mu h 1 ∧ mu h 1 ≤ 4) : Ct G l yX3_push wsX3_push 4 0 0 [.ref h, .ref c] S n mu la (Dt none S n (pshM mu c h) la) := by
  have o3 := hh.1
  obtain ⟨j, hj⟩ : ∃ j : Nat, mu h 2 = j := ⟨(mu h 2).toNat, by omega⟩
  have hj4 : j < 4 := by omega
  have e2 : stC mu c (h + 2 + 49 * j) h 2 = mu h 2 := stC_off (by omega) _
  have e1 : stC mu c (h + 2 + 49 * j) h 1 = mu h 1 := stC_off (by omega) _
  have hF : pshM mu c h = up (up (stC mu c (h + 2 + 49 * j)) h 2 (if mu h 2 + 1 < 4 then mu h 2 + 1 else 0)) h 1 (min (mu h 1 + 1) 4) := by
    unfold pshM
    rw [hj, Int.toNat_natCast]
  rw [hF]
  refine Ct.ofV (cc := cX3_push) (nL := 3) (ret := none) [some (.ref h), some (.ref c), none] hG (by decide) rfl (Nat.le_of_ble_eq_true rfl) rfl ?_
  rintro X rfl rfl C hcl hsl E
  refine V_aload_n C dX3_push_0 rfl ?_
  refine V_aload_n C dX3_push_1 rfl ?_
  refine V_getJ C 2 2 rfl dX3_push_2 o3 rfl hin_X3_push_X3 (by decide) lk_X3_push_22 rfl rfl hj ?_
  refine V_callVD (nA := 1) C dX3_push_5 (c_savedAt C.gp hh hj4) gX3_push_X3_savedAt rfl o3 rfl (by decide +kernel) rfl (by decide) (by decide) (Nat.le_of_ble_eq_true rfl) ⟨by omega, by omega⟩ rfl ?_
  refine V_astore_n C dX3_push_8 rfl (by decide) ?_
  refine V_aload_n C dX3_push_9 rfl ?_
  refine V_ifnull C dX3_push_10 ?_
  refine V_aload_n C dX3_push_13 rfl ?_
  refine V_aload_n C dX3_push_14 rfl ?_
  refine V_callVD (nA := 1) C dX3_push_15 (c_stCopy C.gp (hh.2.2 j hj4) hc (by omega) hR) gX3_push_X7_copyFrom rfl (hh.2.2 j hj4).1 rfl (by decide +kernel) rfl (by decide) (by decide) (Nat.le_of_ble_eq_true rfl) ⟨by omega, by omega⟩ rfl ?_
  refine V_aload_n C dX3_push_18 rfl ?_
  refine V_aload_n C dX3_push_19 rfl ?_
  refine V_getJ C 2 2 rfl dX3_push_20 o3 rfl hin_X3_push_X3 (by decide) lk_X3_push_22 rfl rfl e2 ?_
  refine V_iconst C dX3_push_23 ?_
  refine V_iadd C dX3_push_24 ?_
  refine V_iconst C dX3_push_25 ?_
  have fin : ∀ w, w = (if mu h 2 + 1 < 4 then mu h 2 + 1 else 0) → V X 39 [some (.ref h), some (.ref c), some (.ref (h + 2 + 49 * j))] [.int (I32 w), .ref h] S n (stC mu c (h + 2 + 49 * j)) la 0 0 := by
    intro w hw
    subst hw
    refine V_putJ C 2 2 rfl dX3_push_39 o3 rfl hin_X3_push_X3 tyX3 tyX3_ok nmX3 (by decide) lk_X3_push_22 rfl rfl (by decide +kernel) rfl rfl ?_
    refine V_aload_n C dX3_push_42 rfl ?_
    refine V_aload_n C dX3_push_43 rfl ?_
    refine V_getJ C 1 1 rfl dX3_push_44 o3 rfl hin_X3_push_X3 (by decide) lk_X3_push_18 rfl rfl ((up_i _ _ _ (by decide)).trans e1) ?_
    refine V_iconst C dX3_push_47 ?_
    refine V_iadd C dX3_push_48 ?_
    refine V_iconst C dX3_push_49 ?_
    refine V_mmin C dX3_push_50 (by decide +kernel) (by decide +kernel) (by decide +kernel) (by decide +kernel) (by decide) (Nat.le_of_ble_eq_true rfl) ⟨by omega, by omega⟩ (by omega) (by omega) ?_
    refine V_putJ C 1 1 rfl dX3_push_53 o3 rfl hin_X3_push_X3 tyX3 tyX3_ok nmX3 (by decide) lk_X3_push_18 rfl rfl (by decide +kernel) rfl rfl ?_
    refine V_return C E dX3_push_56 (by omega) (by omega) ?_
    exact Dt_rfl
  refine V_icmp_ge C 38 dX3_push_26 (by decide) (by omega) (by omega) (fun z => ?_) (fun z => ?_)
  · refine V_iconst C dX3_push_38 ?_
    exact fin 0 (by rw [if_neg (by omega)])
  · refine V_aload_n C dX3_push_29 rfl ?_
    refine V_getJ C 2 2 rfl dX3_push_30 o3 rfl hin_X3_push_X3 (by decide) lk_X3_push_22 rfl rfl e2 ?_
    refine V_iconst C dX3_push_33 ?_
    refine V_iadd C dX3_push_34 ?_
    refine V_goto C 39 dX3_push_35 (by decide) ?_
    exact fin _ (by rw [if_pos z])
end HW
