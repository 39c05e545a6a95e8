/-! THE REFERENCE: commands -/
theorem knF_b (s : Int) : 2 ≤ knF s ∧ knF s ≤ 3 := by unfold knF; split <;> omega
def mcF (T : Mem) (P p t s : Int) : Int :=
  if ¬ (0 ≤ p ∧ p ≤ P - 1) ∨ ¬ (0 ≤ t ∧ t ≤ P - 1) then 1 else if p = t ∨ ¬ (0 ≤ s ∧ s ≤ 4) then 2 else if sxT T t = 0 ∨ (sxT T t = 2 ∧ s ≠ 4) then 3 else 0
def dk2 (T : Mem) (P p : Int) : Mem := nwT (tkT T P p) p 1
def ah2 (s : Int) : Int := if s % 2 = 0 then 1 else 0
def dkT (T : Mem) (P p t s : Int) : Mem :=
  if s = 4 then up (up (up (tkT T P p) 9 p (tkT T P p 9 t)) 10 p (tbT (tkT T P p) P (tkT T P p 9 t))) 4 (tkT T P p 9 t) p else
    if dk2 T P p 1 (tkT T P p 9 t) ≠ -1 ∧ dk2 T P p 0 (dk2 T P p 1 (tkT T P p 9 t)) = knF s then
      ciT (dk2 T P p) (dk2 T P p 1 (tkT T P p 9 t)) (frT (tkT T P p)) (dk2 T P p 2 (tkT T P p 9 t) + (if ah2 s = 0 then 1 else 0)) (dk2 T P p 3 (tkT T P p 9 t))
    else prT (dk2 T P p) (tkT T P p 9 t) (frT (tkT T P p)) (knF s) (ah2 s)
def dkA (T : Mem) (P p t s : Int) : Int := if s = 4 then tbT (tkT T P p) P (tkT T P p 9 t) + 1 else 1
def okD (T : Mem) (P p t s : Int) : Prop := okT T P p ∧ 0 ≤ tkT T P p 9 t ∧ (s ≠ 4 → frT (tkT T P p) ≠ -1 ∧ (¬ (dk2 T P p 1 (tkT T P p 9 t) ≠ -1 ∧ dk2 T P p 0 (dk2 T P p 1 (tkT T P p 9 t)) = knF s) → frT (dk2 T P p) ≠ -1))
def egC (T : Mem) (P p s : Int) : Mem :=
  if rtT (tkT T P p) ≠ -1 ∧ dk2 T P p 0 (rtT (tkT T P p)) = knF s then
    ciT (dk2 T P p) (rtT (tkT T P p)) (frT (tkT T P p)) (if ah2 s = 0 then kdT (dk2 T P p) (rtT (tkT T P p)) else 0) (dk2 T P p 3 (chT (dk2 T P p) (rtT (tkT T P p)) (if ah2 s = 0 then kdT (dk2 T P p) (rtT (tkT T P p)) - 1 else 0)))
  else if rtT (tkT T P p) ≠ -1 then prT (dk2 T P p) (rtT (tkT T P p)) (frT (tkT T P p)) (knF s) (ah2 s) else dk2 T P p
def okE (T : Mem) (P p s : Int) : Prop := okT T P p ∧ frT (tkT T P p) ≠ -1 ∧
  (rtT (tkT T P p) ≠ -1 ∧ dk2 T P p 0 (rtT (tkT T P p)) = knF s → 0 ≤ chT (dk2 T P p) (rtT (tkT T P p)) (if ah2 s = 0 then kdT (dk2 T P p) (rtT (tkT T P p)) - 1 else 0)) ∧
  (¬ (rtT (tkT T P p) ≠ -1 ∧ dk2 T P p 0 (rtT (tkT T P p)) = knF s) → rtT (tkT T P p) ≠ -1 → frT (dk2 T P p) ≠ -1)
def flT (T : Mem) (P p x y w h : Int) : Mem :=
  up (up (up (up (up (nwT (tkT T P p) p 4) 2 (frT (tkT T P p)) (ctT (tkT T P p) 4 + 1 - 1)) 5 (frT (tkT T P p)) x) 6 (frT (tkT T P p)) y) 7 (frT (tkT T P p)) w) 8 (frT (tkT T P p)) h
def okF (T : Mem) (P p : Int) : Prop := okT T P p ∧ frT (tkT T P p) ≠ -1
def trO (mu : Mem) (r : Nat) (o : Int) : Mem := fun w i => if w ≤ 8 then mu (r + 1) (o + 9 * i + w) else if w = 9 then mu (r + 1) (o + 288 + 2 * i) else mu (r + 1) (o + 288 + 2 * i + 1)
def svP (mu : Mem) (r : Nat) (o j : Int) : Mem := fun a i => if a = r + 1 ∧ o < i ∧ i ≤ o + j then mu (r + 1) (i - o - 1 + 35) else mu a i
def brP (mu : Mem) (r : Nat) (o j : Int) : Mem := fun a i => if a = r + 1 ∧ 35 ≤ i ∧ i < 35 + j then mu (r + 1) (o + 1 + (i - 35)) else mu a i
def opn (T : Mem) (p : Int) : Int := if T 9 p = -1 then 0 else 1
theorem brP_all (mu : Mem) (r : Nat) (o : Int) : brP mu r o 320 = ptT mu r (trO mu r (o + 1)) := by
  funext a j
  unfold brP ptT trO
  by_cases h : a = r + 1 ∧ 35 ≤ j ∧ j < 355
  · rw [if_pos (by omega), if_pos h]
    by_cases h3 : j < 323
    · rw [if_pos h3, if_pos (by omega)]
      congr 1
      omega
    · rw [if_neg h3]
      by_cases h4 : (j - 323) % 2 = 0
      · rw [if_pos h4, if_neg (by omega), if_pos rfl]
        congr 1
        omega
      · rw [if_neg h4, if_neg (by omega), if_neg (by omega)]
        congr 1
        omega
  · rw [if_neg (by omega), if_neg h]
theorem svP_0 (mu : Mem) (r : Nat) (o : Int) : svP mu r o 0 = mu := by funext a i; unfold svP; rw [if_neg (by omega)]
theorem brP_0 (mu : Mem) (r : Nat) (o : Int) : brP mu r o 0 = mu := by funext a i; unfold brP; rw [if_neg (by omega)]
theorem svP_s {mu : Mem} {r : Nat} {o j : Int} (hj : 0 ≤ j) : up (svP mu r o j) (r + 1) (o + 1 + j) (mu (r + 1) (35 + j)) = svP mu r o (j + 1) := by
  funext a i
  unfold up svP
  try dsimp only
  by_cases h : a = r + 1 ∧ i = o + 1 + j
  · rw [if_pos h, if_pos (by omega), show i - o - 1 + 35 = 35 + j by omega]
  · rw [if_neg h]
    by_cases h2 : a = r + 1 ∧ o < i ∧ i ≤ o + j
    · rw [if_pos h2, if_pos (by omega)]
    · rw [if_neg h2, if_neg (by omega)]
theorem brP_s {mu : Mem} {r : Nat} {o j : Int} (hj : 0 ≤ j) : up (brP mu r o j) (r + 1) (35 + j) (mu (r + 1) (o + 1 + j)) = brP mu r o (j + 1) := by
  funext a i
  unfold up brP
  try dsimp only
  by_cases h : a = r + 1 ∧ i = 35 + j
  · rw [if_pos h, if_pos (by omega), show o + 1 + (i - 35) = o + 1 + j by omega]
  · rw [if_neg h]
    by_cases h2 : a = r + 1 ∧ 35 ≤ i ∧ i < 35 + j
    · rw [if_pos h2, if_pos (by omega)]
    · rw [if_neg h2, if_neg (by omega)]
theorem TB_dk2 {N : Int} {T : Mem} (h : TB N T) (hN : 100 ≤ N) {P : Int} (hP : 0 ≤ P ∧ P ≤ 16) {p : Int} (hp : 0 ≤ p ∧ p < 16) (hf : frT (tkT T P p) ≠ -1) : TB (N + 2) (dk2 T P p) :=
  nwT_TB (tkT_TB h hN hP hp) (by omega) hf hp (by decide)
section M3
variable {G : Gx} {l : Launch} {S : Sh} {n : Nat} {mu T : Mem} {la : Lam} {r : Nat}
set_option maxRecDepth 20000 in
theorem ggX9_mayDock_X9_isPane : GoodIn wsX9_mayDock wsX9_isPane := goodIn_r _ [5, 6, 7, 8, 4, 9, 22, 23, 24, 25, 26, 27, 28, 29, 30, 31, 32, 33, 34, 35, 36, 37, 38, 39, 40, 41, 42, 43, 44, 45] (by decide +kernel) (by decide +kernel)
set_option maxRecDepth 20000 in
theorem gX9_mayDock_X9_isPane : GoodIn wsX9_mayDock (wsV RX9 156 RX9 yX9_isPane wsX9_isPane) := goodIn_app (goodIn_of _ (by decide +kernel)) ggX9_mayDock_X9_isPane
set_option maxRecDepth 20000 in
theorem ggX9_mayDock_X9_in : GoodIn wsX9_mayDock wsX9_in := goodIn_r _ [9] (by decide +kernel) (by decide +kernel)
set_option maxRecDepth 20000 in
theorem gX9_mayDock_X9_in : GoodIn wsX9_mayDock (va_wsS RX9 73 yX9_in wsX9_in) := goodIn_app (goodIn_of _ (by decide +kernel)) ggX9_mayDock_X9_in
set_option maxRecDepth 20000 in
theorem ggX9_mayDock_X9_stateOf : GoodIn wsX9_mayDock wsX9_stateOf := goodIn_r _ [13, 14, 15, 16, 4, 17, 6, 18, 19, 20, 21, 22, 23, 24, 25, 26, 27, 28, 29, 30, 31, 32, 33, 34, 35, 36, 37, 38, 39, 40, 41, 42, 43, 44, 45] (by decide +kernel) (by decide +kernel)
set_option maxRecDepth 20000 in
theorem gX9_mayDock_X9_stateOf : GoodIn wsX9_mayDock (wsV RX9 159 RX9 yX9_stateOf wsX9_stateOf) := goodIn_app (goodIn_of _ (by decide +kernel)) ggX9_mayDock_X9_stateOf
theorem dX9_mayDock_0 : decode cX9_mayDock 0 = .ok (.aload_n 0, 1) := by decide +kernel
theorem dX9_mayDock_1 : decode cX9_mayDock 1 = .ok (.iload_n 1, 1) := by decide +kernel
theorem dX9_mayDock_2 : decode cX9_mayDock 2 = .ok (.invokevirtual 156, 3) := by decide +kernel
theorem dX9_mayDock_5 : decode cX9_mayDock 5 = .ok (.ifCond .eq 11, 3) := by decide +kernel
theorem dX9_mayDock_8 : decode cX9_mayDock 8 = .ok (.aload_n 0, 1) := by decide +kernel
theorem dX9_mayDock_9 : decode cX9_mayDock 9 = .ok (.iload_n 2, 1) := by decide +kernel
theorem dX9_mayDock_10 : decode cX9_mayDock 10 = .ok (.invokevirtual 156, 3) := by decide +kernel
theorem dX9_mayDock_13 : decode cX9_mayDock 13 = .ok (.ifCond .ne 5, 3) := by decide +kernel
theorem dX9_mayDock_16 : decode cX9_mayDock 16 = .ok (.iconst 1, 1) := by decide +kernel
theorem dX9_mayDock_17 : decode cX9_mayDock 17 = .ok (.ireturn, 1) := by decide +kernel
theorem dX9_mayDock_18 : decode cX9_mayDock 18 = .ok (.iload_n 1, 1) := by decide +kernel
theorem dX9_mayDock_19 : decode cX9_mayDock 19 = .ok (.iload_n 2, 1) := by decide +kernel
theorem dX9_mayDock_20 : decode cX9_mayDock 20 = .ok (.if_icmp .eq 12, 3) := by decide +kernel
theorem dX9_mayDock_23 : decode cX9_mayDock 23 = .ok (.iload_n 3, 1) := by decide +kernel
theorem dX9_mayDock_24 : decode cX9_mayDock 24 = .ok (.iconst 0, 1) := by decide +kernel
theorem dX9_mayDock_25 : decode cX9_mayDock 25 = .ok (.iconst 4, 1) := by decide +kernel
theorem dX9_mayDock_26 : decode cX9_mayDock 26 = .ok (.invokestatic 73, 3) := by decide +kernel
theorem dX9_mayDock_29 : decode cX9_mayDock 29 = .ok (.ifCond .ne 5, 3) := by decide +kernel
theorem dX9_mayDock_32 : decode cX9_mayDock 32 = .ok (.iconst 2, 1) := by decide +kernel
theorem dX9_mayDock_33 : decode cX9_mayDock 33 = .ok (.ireturn, 1) := by decide +kernel
theorem dX9_mayDock_34 : decode cX9_mayDock 34 = .ok (.aload_n 0, 1) := by decide +kernel
theorem dX9_mayDock_35 : decode cX9_mayDock 35 = .ok (.iload_n 2, 1) := by decide +kernel
theorem dX9_mayDock_36 : decode cX9_mayDock 36 = .ok (.invokevirtual 159, 3) := by decide +kernel
theorem dX9_mayDock_39 : decode cX9_mayDock 39 = .ok (.ifCond .eq 17, 3) := by decide +kernel
theorem dX9_mayDock_42 : decode cX9_mayDock 42 = .ok (.aload_n 0, 1) := by decide +kernel
theorem dX9_mayDock_43 : decode cX9_mayDock 43 = .ok (.iload_n 2, 1) := by decide +kernel
theorem dX9_mayDock_44 : decode cX9_mayDock 44 = .ok (.invokevirtual 159, 3) := by decide +kernel
theorem dX9_mayDock_47 : decode cX9_mayDock 47 = .ok (.iconst 2, 1) := by decide +kernel
theorem dX9_mayDock_48 : decode cX9_mayDock 48 = .ok (.if_icmp .ne 12, 3) := by decide +kernel
theorem dX9_mayDock_51 : decode cX9_mayDock 51 = .ok (.iload_n 3, 1) := by decide +kernel
theorem dX9_mayDock_52 : decode cX9_mayDock 52 = .ok (.iconst 4, 1) := by decide +kernel
theorem dX9_mayDock_53 : decode cX9_mayDock 53 = .ok (.if_icmp .eq 7, 3) := by decide +kernel
theorem dX9_mayDock_56 : decode cX9_mayDock 56 = .ok (.iconst 3, 1) := by decide +kernel
theorem dX9_mayDock_57 : decode cX9_mayDock 57 = .ok (.goto 4, 3) := by decide +kernel
theorem dX9_mayDock_60 : decode cX9_mayDock 60 = .ok (.iconst 0, 1) := by decide +kernel
theorem dX9_mayDock_61 : decode cX9_mayDock 61 = .ok (.ireturn, 1) := by decide +kernel
theorem m_mayDock (hG : GP G) (hM : MoS S r) {N : Int} (hB : TB N T) (hN : N ≤ 1073740000) (hP : 0 ≤ mu (r + 1) 2 ∧ mu (r + 1) 2 ≤ 16) {x y z : Int} (hx : -2147483648 ≤ x ∧ x ≤ 2147483647) (hy : -2147483648 ≤ y ∧ y ≤ 2147483647) (hz : -2147483648 ≤ z ∧ z ≤ 2147483647) : Ct G l yX9_mayDock wsX9_mayDock 2 0 0 [.ref r, .int (I32 x), .int (I32 y), .int (I32 z)] S n (ptT mu r T) la (Dt (some (.int (I32 (mcF T (mu (r + 1) 2) x y z)))) S n (ptT mu r T) la) := by
  have o9 := hM.1
  have hP' : 0 ≤ ptT mu r T (r + 1) 2 ∧ ptT mu r T (r + 1) 2 ≤ 16 := by rw [pt_lo (by decide)]; exact hP
  have e2 : ptT mu r T (r + 1) 2 = mu (r + 1) 2 := pt_lo (by decide)
  have b1 := inI_b x 0 (mu (r + 1) 2 - 1)
  have b2 := inI_b y 0 (mu (r + 1) 2 - 1)
  have b3 := inI_b z 0 4
  have b4 : 0 ≤ sxT T y ∧ sxT T y ≤ 2 := by unfold sxT; (repeat' split) <;> omega
  have q1 : inI x 0 (mu (r + 1) 2 - 1) = 1 → 0 ≤ x ∧ x ≤ mu (r + 1) 2 - 1 := by unfold inI; split <;> omega
  have q1' : inI x 0 (mu (r + 1) 2 - 1) = 0 → ¬ (0 ≤ x ∧ x ≤ mu (r + 1) 2 - 1) := by unfold inI; split <;> omega
  have q2 : inI y 0 (mu (r + 1) 2 - 1) = 1 → 0 ≤ y ∧ y ≤ mu (r + 1) 2 - 1 := by unfold inI; split <;> omega
  have q2' : inI y 0 (mu (r + 1) 2 - 1) = 0 → ¬ (0 ≤ y ∧ y ≤ mu (r + 1) 2 - 1) := by unfold inI; split <;> omega
  have q3 : inI z 0 4 = 1 → 0 ≤ z ∧ z ≤ 4 := by unfold inI; split <;> omega
  have q3' : inI z 0 4 = 0 → ¬ (0 ≤ z ∧ z ≤ 4) := by unfold inI; split <;> omega
  refine Ct.ofV (cc := cX9_mayDock) (nL := 4) (ret := (some .int)) [some (.ref r), some (.int (I32 x)), some (.int (I32 y)), some (.int (I32 z))] hG (by decide) rfl (Nat.le_of_ble_eq_true rfl) rfl ?_
  rintro X rfl rfl C hcl hsl E
  refine V_aload_n C dX9_mayDock_0 rfl ?_
  refine V_iload_n C dX9_mayDock_1 rfl ?_
  refine V_callVD (nA := 1) C dX9_mayDock_2 (m_isPane C.gp hM hP' hx) gX9_mayDock_X9_isPane rfl o9 rfl (by decide +kernel) rfl (by decide) (by decide) (Nat.le_of_ble_eq_true rfl) ⟨by omega, by omega⟩ rfl ?_
  rw [e2]
  refine V_if_eq C 16 dX9_mayDock_5 (by decide) (by omega) (fun z5 => ?_) (fun z5 => ?_)
  · refine V_iconst C dX9_mayDock_16 ?_
    refine V_ireturn C E dX9_mayDock_17 (by omega) (by omega) ?_
    exact Dt_int (by unfold mcF; (repeat' split) <;> first | rfl | omega)
  · refine V_aload_n C dX9_mayDock_8 rfl ?_
    refine V_iload_n C dX9_mayDock_9 rfl ?_
    refine V_callVD (nA := 1) C dX9_mayDock_10 (m_isPane C.gp hM hP' hy) gX9_mayDock_X9_isPane rfl o9 rfl (by decide +kernel) rfl (by decide) (by decide) (Nat.le_of_ble_eq_true rfl) ⟨by omega, by omega⟩ rfl ?_
    rw [e2]
    refine V_if_ne C 18 dX9_mayDock_13 (by decide) (by omega) (fun z13 => ?_) (fun z13 => ?_)
    · refine V_iload_n C dX9_mayDock_18 rfl ?_
      refine V_iload_n C dX9_mayDock_19 rfl ?_
      refine V_icmp_eq C 32 dX9_mayDock_20 (by decide) (by omega) (by omega) (fun z20 => ?_) (fun z20 => ?_)
      · refine V_iconst C dX9_mayDock_32 ?_
        refine V_ireturn C E dX9_mayDock_33 (by omega) (by omega) ?_
        exact Dt_int (by unfold mcF; (repeat' split) <;> first | rfl | omega)
      · refine V_iload_n C dX9_mayDock_23 rfl ?_
        refine V_iconst C dX9_mayDock_24 ?_
        refine V_iconst C dX9_mayDock_25 ?_
        refine V_callSD (nA := 3) C dX9_mayDock_26 (m_in C.gp hz (by omega) (by omega)) gX9_mayDock_X9_in rfl (by decide +kernel) rfl (by decide) (by decide) (Nat.le_of_ble_eq_true rfl) ⟨by omega, by omega⟩ rfl ?_
        refine V_if_ne C 34 dX9_mayDock_29 (by decide) (by omega) (fun z29 => ?_) (fun z29 => ?_)
        · refine V_aload_n C dX9_mayDock_34 rfl ?_
          refine V_iload_n C dX9_mayDock_35 rfl ?_
          refine V_callVD (nA := 1) C dX9_mayDock_36 (m_stateOf C.gp hM hB (by omega) (by omega)) gX9_mayDock_X9_stateOf rfl o9 rfl (by decide +kernel) rfl (by decide) (by decide) (Nat.le_of_ble_eq_true rfl) ⟨by omega, by omega⟩ rfl ?_
          refine V_if_eq C 56 dX9_mayDock_39 (by decide) (by omega) (fun z39 => ?_) (fun z39 => ?_)
          · refine V_iconst C dX9_mayDock_56 ?_
            refine V_goto C 61 dX9_mayDock_57 (by decide) ?_
            refine V_ireturn C E dX9_mayDock_61 (by omega) (by omega) ?_
            exact Dt_int (by unfold mcF; (repeat' split) <;> first | rfl | omega)
          · refine V_aload_n C dX9_mayDock_42 rfl ?_
            refine V_iload_n C dX9_mayDock_43 rfl ?_
            refine V_callVD (nA := 1) C dX9_mayDock_44 (m_stateOf C.gp hM hB (by omega) (by omega)) gX9_mayDock_X9_stateOf rfl o9 rfl (by decide +kernel) rfl (by decide) (by decide) (Nat.le_of_ble_eq_true rfl) ⟨by omega, by omega⟩ rfl ?_
            refine V_iconst C dX9_mayDock_47 ?_
            refine V_icmp_ne C 60 dX9_mayDock_48 (by decide) (by omega) (by omega) (fun z48 => ?_) (fun z48 => ?_)
            · refine V_iconst C dX9_mayDock_60 ?_
              refine V_ireturn C E dX9_mayDock_61 (by omega) (by omega) ?_
              exact Dt_int (by unfold mcF; (repeat' split) <;> first | rfl | omega)
            · refine V_iload_n C dX9_mayDock_51 rfl ?_
              refine V_iconst C dX9_mayDock_52 ?_
              refine V_icmp_eq C 60 dX9_mayDock_53 (by decide) (by omega) (by omega) (fun z53 => ?_) (fun z53 => ?_)
              · refine V_iconst C dX9_mayDock_60 ?_
                refine V_ireturn C E dX9_mayDock_61 (by omega) (by omega) ?_
                exact Dt_int (by unfold mcF; (repeat' split) <;> first | rfl | omega)
              · refine V_iconst C dX9_mayDock_56 ?_
                refine V_goto C 61 dX9_mayDock_57 (by decide) ?_
                refine V_ireturn C E dX9_mayDock_61 (by omega) (by omega) ?_
                exact Dt_int (by unfold mcF; (repeat' split) <;> first | rfl | omega)
        · refine V_iconst C dX9_mayDock_32 ?_
          refine V_ireturn C E dX9_mayDock_33 (by omega) (by omega) ?_
          exact Dt_int (by unfold mcF; (repeat' split) <;> first | rfl | omega)
    · refine V_iconst C dX9_mayDock_16 ?_
      refine V_ireturn C E dX9_mayDock_17 (by omega) (by omega) ?_
      exact Dt_int (by unfold mcF; (repeat' split) <;> first | rfl | omega)
set_option maxRecDepth 20000 in
theorem ggX9_docks_X9_takesAway : GoodIn wsX9_docks wsX9_takesAway := goodIn_r _ [7, 1, 8, 9, 10, 6, 11, 12, 13, 14, 15, 16, 17, 18, 19, 20, 21, 22, 23, 24, 25, 26, 27, 28, 29, 30, 31, 32, 33, 34, 35, 36, 37, 38, 39, 40, 41, 42, 43, 44, 45, 46, 66, 67, 68, 69, 70, 71, 72, 73, 74, 75, 76, 77, 78, 79, 80, 81, 82, 83, 84, 85, 86, 87, 88, 89] (by decide +kernel) (by decide +kernel)
set_option maxRecDepth 20000 in
theorem gX9_docks_X9_takesAway : GoodIn wsX9_docks (wsV RX9 162 RX9 yX9_takesAway wsX9_takesAway) := goodIn_app (goodIn_of _ (by decide +kernel)) ggX9_docks_X9_takesAway
set_option maxRecDepth 20000 in
theorem ggX9_docks_X9_groupOf : GoodIn wsX9_docks wsX9_groupOf := goodIn_r _ [11, 1, 66, 67, 68, 69, 70, 71, 72, 73, 74, 75, 76, 77, 78, 79, 80, 81, 82, 83, 84, 85, 86, 87, 88, 89] (by decide +kernel) (by decide +kernel)
set_option maxRecDepth 20000 in
theorem gX9_docks_X9_groupOf : GoodIn wsX9_docks (wsV RX9 85 RX9 yX9_groupOf wsX9_groupOf) := goodIn_app (goodIn_of _ (by decide +kernel)) ggX9_docks_X9_groupOf
set_option maxRecDepth 20000 in
theorem ggX9_docks_X9_tabs : GoodIn wsX9_docks wsX9_tabs := goodIn_r _ [19, 1, 8, 9, 10, 6, 11, 66, 67, 68, 69, 70, 71, 72, 73, 74, 75, 76, 77, 78, 79, 80, 81, 82, 83, 84, 85, 86, 87, 88, 89] (by decide +kernel) (by decide +kernel)
set_option maxRecDepth 20000 in
theorem gX9_docks_X9_tabs : GoodIn wsX9_docks (wsV RX9 135 RX9 yX9_tabs wsX9_tabs) := goodIn_app (goodIn_of _ (by decide +kernel)) ggX9_docks_X9_tabs
set_option maxRecDepth 20000 in
theorem ggX9_docks_X9_puts : GoodIn wsX9_docks wsX9_puts := goodIn_r _ [31, 1, 66, 67, 68, 69, 70, 71, 72, 73, 74, 75, 76, 77, 78, 79, 80, 81, 82, 83, 84, 85, 86, 87, 88, 89] (by decide +kernel) (by decide +kernel)
set_option maxRecDepth 20000 in
theorem gX9_docks_X9_puts : GoodIn wsX9_docks (wsV RX9 81 RX9 yX9_puts wsX9_puts) := goodIn_app (goodIn_of _ (by decide +kernel)) ggX9_docks_X9_puts
set_option maxRecDepth 20000 in
theorem ggX9_docks_X9_newGroup : GoodIn wsX9_docks wsX9_newGroup := goodIn_r _ [50, 1, 51, 52, 53, 6, 54, 24, 25, 26, 27, 28, 29, 30, 31, 66, 67, 68, 69, 70, 71, 72, 73, 74, 75, 76, 77, 78, 79, 80, 81, 82, 83, 84, 85, 86, 87, 88, 89] (by decide +kernel) (by decide +kernel)
set_option maxRecDepth 20000 in
theorem gX9_docks_X9_newGroup : GoodIn wsX9_docks (wsV RX9 165 RX9 yX9_newGroup wsX9_newGroup) := goodIn_app (goodIn_of _ (by decide +kernel)) ggX9_docks_X9_newGroup
set_option maxRecDepth 20000 in
theorem ggX9_docks_X9_of : GoodIn wsX9_docks wsX9_of := goodIn_r _ [27, 1, 66, 67, 68, 69, 70, 71, 72, 73, 74, 75, 76, 77, 78, 79, 80, 81, 82, 83, 84, 85, 86, 87, 88, 89] (by decide +kernel) (by decide +kernel)
set_option maxRecDepth 20000 in
theorem gX9_docks_X9_of : GoodIn wsX9_docks (wsV RX9 77 RX9 yX9_of wsX9_of) := goodIn_app (goodIn_of _ (by decide +kernel)) ggX9_docks_X9_of
set_option maxRecDepth 20000 in
theorem ggX9_docks_X9_kindOf : GoodIn wsX9_docks wsX9_kindOf := goodIn_r _ [57] (by decide +kernel) (by decide +kernel)
set_option maxRecDepth 20000 in
theorem gX9_docks_X9_kindOf : GoodIn wsX9_docks (va_wsS RX9 168 yX9_kindOf wsX9_kindOf) := goodIn_app (goodIn_of _ (by decide +kernel)) ggX9_docks_X9_kindOf
set_option maxRecDepth 20000 in
theorem ggX9_docks_X9_comesIn : GoodIn wsX9_docks wsX9_comesIn := goodIn_r _ [61, 24, 25, 26, 6, 27, 1, 32, 33, 34, 28, 29, 30, 31, 66, 67, 68, 69, 70, 71, 72, 73, 74, 75, 76, 77, 78, 79, 80, 81, 82, 83, 84, 85, 86, 87, 88, 89] (by decide +kernel) (by decide +kernel)
set_option maxRecDepth 20000 in
theorem gX9_docks_X9_comesIn : GoodIn wsX9_docks (wsV RX9 171 RX9 yX9_comesIn wsX9_comesIn) := goodIn_app (goodIn_of _ (by decide +kernel)) ggX9_docks_X9_comesIn
set_option maxRecDepth 20000 in
theorem ggX9_docks_X9_parts : GoodIn wsX9_docks wsX9_parts := goodIn_r _ [65, 51, 52, 53, 6, 54, 24, 25, 26, 27, 1, 28, 29, 30, 31, 66, 67, 68, 69, 70, 71, 72, 73, 74, 75, 76, 77, 78, 79, 80, 81, 82, 83, 84, 85, 86, 87, 88, 89] (by decide +kernel) (by decide +kernel)
set_option maxRecDepth 20000 in
theorem gX9_docks_X9_parts : GoodIn wsX9_docks (wsV RX9 175 RX9 yX9_parts wsX9_parts) := goodIn_app (goodIn_of _ (by decide +kernel)) ggX9_docks_X9_parts
theorem dX9_docks_0 : decode cX9_docks 0 = .ok (.aload_n 0, 1) := by decide +kernel
theorem dX9_docks_1 : decode cX9_docks 1 = .ok (.iload_n 1, 1) := by decide +kernel
theorem dX9_docks_2 : decode cX9_docks 2 = .ok (.invokevirtual 162, 3) := by decide +kernel
theorem dX9_docks_5 : decode cX9_docks 5 = .ok (.aload_n 0, 1) := by decide +kernel
theorem dX9_docks_6 : decode cX9_docks 6 = .ok (.iload_n 2, 1) := by decide +kernel
theorem dX9_docks_7 : decode cX9_docks 7 = .ok (.invokevirtual 85, 3) := by decide +kernel
theorem dX9_docks_10 : decode cX9_docks 10 = .ok (.istore 4, 2) := by decide +kernel
theorem dX9_docks_12 : decode cX9_docks 12 = .ok (.iload_n 3, 1) := by decide +kernel
theorem dX9_docks_13 : decode cX9_docks 13 = .ok (.iconst 4, 1) := by decide +kernel
theorem dX9_docks_14 : decode cX9_docks 14 = .ok (.if_icmp .ne 58, 3) := by decide +kernel
theorem dX9_docks_17 : decode cX9_docks 17 = .ok (.aload_n 0, 1) := by decide +kernel
theorem dX9_docks_18 : decode cX9_docks 18 = .ok (.iload 4, 2) := by decide +kernel
theorem dX9_docks_20 : decode cX9_docks 20 = .ok (.invokevirtual 135, 3) := by decide +kernel
theorem dX9_docks_23 : decode cX9_docks 23 = .ok (.istore 5, 2) := by decide +kernel
theorem dX9_docks_25 : decode cX9_docks 25 = .ok (.aload_n 0, 1) := by decide +kernel
theorem dX9_docks_26 : decode cX9_docks 26 = .ok (.getfield 7, 3) := by decide +kernel
theorem dX9_docks_29 : decode cX9_docks 29 = .ok (.sipush 323, 3) := by decide +kernel
theorem dX9_docks_32 : decode cX9_docks 32 = .ok (.iconst 2, 1) := by decide +kernel
theorem dX9_docks_33 : decode cX9_docks 33 = .ok (.iload_n 1, 1) := by decide +kernel
theorem dX9_docks_34 : decode cX9_docks 34 = .ok (.imul, 1) := by decide +kernel
theorem dX9_docks_35 : decode cX9_docks 35 = .ok (.iadd, 1) := by decide +kernel
theorem dX9_docks_36 : decode cX9_docks 36 = .ok (.iload 4, 2) := by decide +kernel
theorem dX9_docks_38 : decode cX9_docks 38 = .ok (.iastore, 1) := by decide +kernel
theorem dX9_docks_39 : decode cX9_docks 39 = .ok (.aload_n 0, 1) := by decide +kernel
theorem dX9_docks_40 : decode cX9_docks 40 = .ok (.getfield 7, 3) := by decide +kernel
theorem dX9_docks_43 : decode cX9_docks 43 = .ok (.sipush 323, 3) := by decide +kernel
theorem dX9_docks_46 : decode cX9_docks 46 = .ok (.iconst 2, 1) := by decide +kernel
theorem dX9_docks_47 : decode cX9_docks 47 = .ok (.iload_n 1, 1) := by decide +kernel
theorem dX9_docks_48 : decode cX9_docks 48 = .ok (.imul, 1) := by decide +kernel
theorem dX9_docks_49 : decode cX9_docks 49 = .ok (.iadd, 1) := by decide +kernel
theorem dX9_docks_50 : decode cX9_docks 50 = .ok (.iconst 1, 1) := by decide +kernel
theorem dX9_docks_51 : decode cX9_docks 51 = .ok (.iadd, 1) := by decide +kernel
theorem dX9_docks_52 : decode cX9_docks 52 = .ok (.iload 5, 2) := by decide +kernel
theorem dX9_docks_54 : decode cX9_docks 54 = .ok (.iastore, 1) := by decide +kernel
theorem dX9_docks_55 : decode cX9_docks 55 = .ok (.aload_n 0, 1) := by decide +kernel
theorem dX9_docks_56 : decode cX9_docks 56 = .ok (.iload 4, 2) := by decide +kernel
theorem dX9_docks_58 : decode cX9_docks 58 = .ok (.iconst 4, 1) := by decide +kernel
theorem dX9_docks_59 : decode cX9_docks 59 = .ok (.iload_n 1, 1) := by decide +kernel
theorem dX9_docks_60 : decode cX9_docks 60 = .ok (.invokevirtual 81, 3) := by decide +kernel
theorem dX9_docks_63 : decode cX9_docks 63 = .ok (.aload_n 0, 1) := by decide +kernel
theorem dX9_docks_64 : decode cX9_docks 64 = .ok (.iload 5, 2) := by decide +kernel
theorem dX9_docks_66 : decode cX9_docks 66 = .ok (.iconst 1, 1) := by decide +kernel
theorem dX9_docks_67 : decode cX9_docks 67 = .ok (.iadd, 1) := by decide +kernel
theorem dX9_docks_68 : decode cX9_docks 68 = .ok (.putfield 150, 3) := by decide +kernel
theorem dX9_docks_71 : decode cX9_docks 71 = .ok (.return_, 1) := by decide +kernel
theorem dX9_docks_72 : decode cX9_docks 72 = .ok (.aload_n 0, 1) := by decide +kernel
theorem dX9_docks_73 : decode cX9_docks 73 = .ok (.iconst 1, 1) := by decide +kernel
theorem dX9_docks_74 : decode cX9_docks 74 = .ok (.putfield 150, 3) := by decide +kernel
theorem dX9_docks_77 : decode cX9_docks 77 = .ok (.aload_n 0, 1) := by decide +kernel
theorem dX9_docks_78 : decode cX9_docks 78 = .ok (.iload_n 1, 1) := by decide +kernel
theorem dX9_docks_79 : decode cX9_docks 79 = .ok (.iconst 1, 1) := by decide +kernel
theorem dX9_docks_80 : decode cX9_docks 80 = .ok (.invokevirtual 165, 3) := by decide +kernel
theorem dX9_docks_83 : decode cX9_docks 83 = .ok (.istore 5, 2) := by decide +kernel
theorem dX9_docks_85 : decode cX9_docks 85 = .ok (.aload_n 0, 1) := by decide +kernel
theorem dX9_docks_86 : decode cX9_docks 86 = .ok (.iload 4, 2) := by decide +kernel
theorem dX9_docks_88 : decode cX9_docks 88 = .ok (.iconst 1, 1) := by decide +kernel
theorem dX9_docks_89 : decode cX9_docks 89 = .ok (.invokevirtual 77, 3) := by decide +kernel
theorem dX9_docks_92 : decode cX9_docks 92 = .ok (.istore 6, 2) := by decide +kernel
theorem dX9_docks_94 : decode cX9_docks 94 = .ok (.iload_n 3, 1) := by decide +kernel
theorem dX9_docks_95 : decode cX9_docks 95 = .ok (.iconst 2, 1) := by decide +kernel
theorem dX9_docks_96 : decode cX9_docks 96 = .ok (.irem, 1) := by decide +kernel
theorem dX9_docks_97 : decode cX9_docks 97 = .ok (.ifCond .ne 7, 3) := by decide +kernel
theorem dX9_docks_100 : decode cX9_docks 100 = .ok (.iconst 1, 1) := by decide +kernel
theorem dX9_docks_101 : decode cX9_docks 101 = .ok (.goto 4, 3) := by decide +kernel
theorem dX9_docks_104 : decode cX9_docks 104 = .ok (.iconst 0, 1) := by decide +kernel
theorem dX9_docks_105 : decode cX9_docks 105 = .ok (.istore 7, 2) := by decide +kernel
theorem dX9_docks_107 : decode cX9_docks 107 = .ok (.iload 6, 2) := by decide +kernel
theorem dX9_docks_109 : decode cX9_docks 109 = .ok (.iconst (-1), 1) := by decide +kernel
theorem dX9_docks_110 : decode cX9_docks 110 = .ok (.if_icmp .eq 53, 3) := by decide +kernel
theorem dX9_docks_113 : decode cX9_docks 113 = .ok (.aload_n 0, 1) := by decide +kernel
theorem dX9_docks_114 : decode cX9_docks 114 = .ok (.iload 6, 2) := by decide +kernel
theorem dX9_docks_116 : decode cX9_docks 116 = .ok (.iconst 0, 1) := by decide +kernel
theorem dX9_docks_117 : decode cX9_docks 117 = .ok (.invokevirtual 77, 3) := by decide +kernel
theorem dX9_docks_120 : decode cX9_docks 120 = .ok (.iload_n 3, 1) := by decide +kernel
theorem dX9_docks_121 : decode cX9_docks 121 = .ok (.invokestatic 168, 3) := by decide +kernel
theorem dX9_docks_124 : decode cX9_docks 124 = .ok (.if_icmp .ne 39, 3) := by decide +kernel
theorem dX9_docks_127 : decode cX9_docks 127 = .ok (.aload_n 0, 1) := by decide +kernel
theorem dX9_docks_128 : decode cX9_docks 128 = .ok (.iload 6, 2) := by decide +kernel
theorem dX9_docks_130 : decode cX9_docks 130 = .ok (.iload 5, 2) := by decide +kernel
theorem dX9_docks_132 : decode cX9_docks 132 = .ok (.aload_n 0, 1) := by decide +kernel
theorem dX9_docks_133 : decode cX9_docks 133 = .ok (.iload 4, 2) := by decide +kernel
theorem dX9_docks_135 : decode cX9_docks 135 = .ok (.iconst 2, 1) := by decide +kernel
theorem dX9_docks_136 : decode cX9_docks 136 = .ok (.invokevirtual 77, 3) := by decide +kernel
theorem dX9_docks_139 : decode cX9_docks 139 = .ok (.iload 7, 2) := by decide +kernel
theorem dX9_docks_141 : decode cX9_docks 141 = .ok (.ifCond .eq 7, 3) := by decide +kernel
theorem dX9_docks_144 : decode cX9_docks 144 = .ok (.iconst 0, 1) := by decide +kernel
theorem dX9_docks_145 : decode cX9_docks 145 = .ok (.goto 4, 3) := by decide +kernel
theorem dX9_docks_148 : decode cX9_docks 148 = .ok (.iconst 1, 1) := by decide +kernel
theorem dX9_docks_149 : decode cX9_docks 149 = .ok (.iadd, 1) := by decide +kernel
theorem dX9_docks_150 : decode cX9_docks 150 = .ok (.aload_n 0, 1) := by decide +kernel
theorem dX9_docks_151 : decode cX9_docks 151 = .ok (.iload 4, 2) := by decide +kernel
theorem dX9_docks_153 : decode cX9_docks 153 = .ok (.iconst 3, 1) := by decide +kernel
theorem dX9_docks_154 : decode cX9_docks 154 = .ok (.invokevirtual 77, 3) := by decide +kernel
theorem dX9_docks_157 : decode cX9_docks 157 = .ok (.invokevirtual 171, 3) := by decide +kernel
theorem dX9_docks_160 : decode cX9_docks 160 = .ok (.goto 17, 3) := by decide +kernel
theorem dX9_docks_163 : decode cX9_docks 163 = .ok (.aload_n 0, 1) := by decide +kernel
theorem dX9_docks_164 : decode cX9_docks 164 = .ok (.iload 4, 2) := by decide +kernel
theorem dX9_docks_166 : decode cX9_docks 166 = .ok (.iload 5, 2) := by decide +kernel
theorem dX9_docks_168 : decode cX9_docks 168 = .ok (.iload_n 3, 1) := by decide +kernel
theorem dX9_docks_169 : decode cX9_docks 169 = .ok (.invokestatic 168, 3) := by decide +kernel
theorem dX9_docks_172 : decode cX9_docks 172 = .ok (.iload 7, 2) := by decide +kernel
theorem dX9_docks_174 : decode cX9_docks 174 = .ok (.invokevirtual 175, 3) := by decide +kernel
theorem dX9_docks_177 : decode cX9_docks 177 = .ok (.return_, 1) := by decide +kernel
theorem hin_X9_docks_X9 : ∀ w ∈ wsX90, w ∈ wsX9_docks := by decide +kernel
theorem lk_X9_docks_7 : Cond.fieldLink RX9 7 RX9 "s" "[I" ∈ wsX9_docks := by decide +kernel
theorem lk_X9_docks_150 : Cond.fieldLink RX9 150 RX9 "answer" "I" ∈ wsX9_docks := by decide +kernel
theorem m_docks (hG : GP G) (hM : MoS S r) {N : Int} (hB : TB N T) (hN : 100 ≤ N ∧ N ≤ 1073730000) (hP : 0 ≤ mu (r + 1) 2 ∧ mu (r + 1) 2 ≤ 16) {x y z : Int} (hx : 0 ≤ x ∧ x < 16) (hy : 0 ≤ y ∧ y < 16) (hz : 0 ≤ z ∧ z ≤ 4) (ho : okD T (mu (r + 1) 2) x y z) : Ct G l yX9_docks wsX9_docks 4 0 0 [.ref r, .int (I32 x), .int (I32 y), .int (I32 z)] S n (ptT mu r T) la (Dt none S n (ptT (up mu r 19 (dkA T (mu (r + 1) 2) x y z)) r (dkT T (mu (r + 1) 2) x y z)) la) := by
  have o9 := hM.1
  obtain ⟨o1, o2, o3⟩ := ho
  have hB1 := tkT_TB hB hN.1 hP hx
  have b1 := hB1.g hy
  have bt := tbT_b (tkT T (mu (r + 1) 2) x) hP (tkT T (mu (r + 1) 2) x 9 y)
  have bk := knF_b z
  unfold dkT dkA
  refine Ct.ofV (cc := cX9_docks) (nL := 8) (ret := none) [some (.ref r), some (.int (I32 x)), some (.int (I32 y)), some (.int (I32 z)), none, none, none, none] hG (by decide) rfl (Nat.le_of_ble_eq_true rfl) rfl ?_
  rintro X rfl rfl C hcl hsl E
  refine V_aload_n C dX9_docks_0 rfl ?_
  refine V_iload_n C dX9_docks_1 rfl ?_
  refine V_callVD (nA := 1) C dX9_docks_2 (m_takesAway C.gp hM hB (by omega) hP hx o1) gX9_docks_X9_takesAway rfl o9 rfl (by decide +kernel) rfl (by decide) (by decide) (Nat.le_of_ble_eq_true rfl) ⟨by omega, by omega⟩ rfl ?_
  refine V_aload_n C dX9_docks_5 rfl ?_
  refine V_iload_n C dX9_docks_6 rfl ?_
  refine V_callVD (nA := 1) C dX9_docks_7 (m_groupOf C.gp hM hy) gX9_docks_X9_groupOf rfl o9 rfl (by decide +kernel) rfl (by decide) (by decide) (Nat.le_of_ble_eq_true rfl) ⟨by omega, by omega⟩ rfl ?_
  refine V_istore C dX9_docks_10 rfl (by decide) ?_
  refine V_iload_n C dX9_docks_12 rfl ?_
  refine V_iconst C dX9_docks_13 ?_
  refine V_icmp_ne C 72 dX9_docks_14 (by decide) (by omega) (by omega) (fun z1 => ?_) (fun z1 => ?_)
  · rw [if_neg (show ¬ z = 4 by omega), if_neg (show ¬ z = 4 by omega)] at E
    obtain ⟨f1, f2⟩ := o3 (by omega)
    have hB2 := TB_dk2 hB hN.1 hP hx f1
    have bf := frT_b (tkT T (mu (r + 1) 2) x)
    have b3 := hB2.p (i := tkT T (mu (r + 1) 2) x 9 y) (by omega)
    have b4 := hB2.n 2 (by decide) (i := tkT T (mu (r + 1) 2) x 9 y) (by omega)
    have b5 := hB2.n 3 (by decide) (i := tkT T (mu (r + 1) 2) x 9 y) (by omega)
    have b6 : ¬ dk2 T (mu (r + 1) 2) x 1 (tkT T (mu (r + 1) 2) x 9 y) = -1 → _ := fun q => hB2.n 0 (by decide) (i := dk2 T (mu (r + 1) 2) x 1 (tkT T (mu (r + 1) 2) x 9 y)) (by omega)
    refine V_aload_n C dX9_docks_72 rfl ?_
    refine V_iconst C dX9_docks_73 ?_
    refine V_putJ C 19 19 rfl dX9_docks_74 o9 rfl hin_X9_docks_X9 tyX9 tyX9_ok nmX9 (by decide) lk_X9_docks_150 rfl rfl (by decide +kernel) rfl (ptu_r) ?_
    refine V_aload_n C dX9_docks_77 rfl ?_
    refine V_iload_n C dX9_docks_78 rfl ?_
    refine V_iconst C dX9_docks_79 ?_
    refine V_callVD (nA := 2) C dX9_docks_80 (m_newGroup C.gp hM hB1 (by omega) hx f1) gX9_docks_X9_newGroup rfl o9 rfl (by decide +kernel) rfl (by decide) (by decide) (Nat.le_of_ble_eq_true rfl) ⟨by omega, by omega⟩ rfl ?_
    rw [show nwT (tkT T (mu (r + 1) 2) x) x 1 = dk2 T (mu (r + 1) 2) x from rfl]
    refine V_istore C dX9_docks_83 rfl (by decide) ?_
    refine V_aload_n C dX9_docks_85 rfl ?_
    refine V_iload C dX9_docks_86 rfl ?_
    refine V_iconst C dX9_docks_88 ?_
    refine V_callVD (nA := 2) C dX9_docks_89 (m_of C.gp hM (by omega) 1 (by decide) rfl) gX9_docks_X9_of rfl o9 rfl (by decide +kernel) rfl (by decide) (by decide) (Nat.le_of_ble_eq_true rfl) ⟨by omega, by omega⟩ rfl ?_
    generalize dk2 T (mu (r + 1) 2) x = D at hB2 b3 b4 b5 b6 f2 E
    generalize tkT T (mu (r + 1) 2) x 9 y = g at o2 b1 b3 b4 b5 b6 bt f2 E
    generalize frT (tkT T (mu (r + 1) 2) x) = gr at bf f1 f2 E
    have ah : ∀ v : Int, v = ah2 z → V X 105 [some (.ref r), some (.int (I32 x)), some (.int (I32 y)), some (.int (I32 z)), some (.int (I32 g)), some (.int (I32 gr)), some (.int (I32 (D 1 g))), none] [.int (I32 v)] S n (ptT (up mu r 19 1) r D) la 0 0 := by
      intro v hv
      have bv : 0 ≤ v ∧ v ≤ 1 := by rw [hv]; unfold ah2; split <;> omega
      rw [← hv] at E
      have part : ¬ (D 1 g ≠ -1 ∧ D 0 (D 1 g) = knF z) → V X 163 [some (.ref r), some (.int (I32 x)), some (.int (I32 y)), some (.int (I32 z)), some (.int (I32 g)), some (.int (I32 gr)), some (.int (I32 (D 1 g))), some (.int (I32 v))] [] S n (ptT (up mu r 19 1) r D) la 0 0 := by
        intro hn
        rw [if_neg hn] at E
        refine V_aload_n C dX9_docks_163 rfl ?_
        refine V_iload C dX9_docks_164 rfl ?_
        refine V_iload C dX9_docks_166 rfl ?_
        refine V_iload_n C dX9_docks_168 rfl ?_
        refine V_callSD (nA := 1) C dX9_docks_169 (m_kindOf C.gp (by omega)) gX9_docks_X9_kindOf rfl (by decide +kernel) rfl (by decide) (by decide) (Nat.le_of_ble_eq_true rfl) ⟨by omega, by omega⟩ rfl ?_
        refine V_iload C dX9_docks_172 rfl ?_
        refine V_callVD (nA := 4) C dX9_docks_174 (m_parts C.gp hM hB2 (by omega) (by omega) (by omega) bv (f2 hn)) gX9_docks_X9_parts rfl o9 rfl (by decide +kernel) rfl (by decide) (by decide) (Nat.le_of_ble_eq_true rfl) ⟨by omega, by omega⟩ rfl ?_
        refine V_return C E dX9_docks_177 (by omega) (by omega) ?_
        exact Dt_rfl
      refine V_istore C dX9_docks_105 rfl (by decide) ?_
      refine V_iload C dX9_docks_107 rfl ?_
      refine V_iconst C dX9_docks_109 ?_
      refine V_icmp_eq C 163 dX9_docks_110 (by decide) (by omega) (by omega) (fun z2 => ?_) (fun z2 => ?_)
      · exact part (by omega)
      · have b6 := b6 z2
        refine V_aload_n C dX9_docks_113 rfl ?_
        refine V_iload C dX9_docks_114 rfl ?_
        refine V_iconst C dX9_docks_116 ?_
        refine V_callVD (nA := 2) C dX9_docks_117 (m_of C.gp hM (by omega) 0 (by decide) rfl) gX9_docks_X9_of rfl o9 rfl (by decide +kernel) rfl (by decide) (by decide) (Nat.le_of_ble_eq_true rfl) ⟨by omega, by omega⟩ rfl ?_
        refine V_iload_n C dX9_docks_120 rfl ?_
        refine V_callSD (nA := 1) C dX9_docks_121 (m_kindOf C.gp (by omega)) gX9_docks_X9_kindOf rfl (by decide +kernel) rfl (by decide) (by decide) (Nat.le_of_ble_eq_true rfl) ⟨by omega, by omega⟩ rfl ?_
        refine V_icmp_ne C 163 dX9_docks_124 (by decide) (by omega) (by omega) (fun z3 => ?_) (fun z3 => ?_)
        · exact part (by omega)
        · rw [if_pos (show D 1 g ≠ -1 ∧ D 0 (D 1 g) = knF z from ⟨z2, z3⟩)] at E
          refine V_aload_n C dX9_docks_127 rfl ?_
          refine V_iload C dX9_docks_128 rfl ?_
          refine V_iload C dX9_docks_130 rfl ?_
          refine V_aload_n C dX9_docks_132 rfl ?_
          refine V_iload C dX9_docks_133 rfl ?_
          refine V_iconst C dX9_docks_135 ?_
          refine V_callVD (nA := 2) C dX9_docks_136 (m_of C.gp hM (by omega) 2 (by decide) rfl) gX9_docks_X9_of rfl o9 rfl (by decide +kernel) rfl (by decide) (by decide) (Nat.le_of_ble_eq_true rfl) ⟨by omega, by omega⟩ rfl ?_
          refine V_iload C dX9_docks_139 rfl ?_
          refine V_if_eq C 148 dX9_docks_141 (by decide) (by omega) (fun z4 => ?_) (fun z4 => ?_)
          · rw [if_pos z4] at E
            refine V_iconst C dX9_docks_148 ?_
            refine V_iadd C dX9_docks_149 ?_
            refine V_aload_n C dX9_docks_150 rfl ?_
            refine V_iload C dX9_docks_151 rfl ?_
            refine V_iconst C dX9_docks_153 ?_
            refine V_callVD (nA := 2) C dX9_docks_154 (m_of C.gp hM (by omega) 3 (by decide) rfl) gX9_docks_X9_of rfl o9 rfl (by decide +kernel) rfl (by decide) (by decide) (Nat.le_of_ble_eq_true rfl) ⟨by omega, by omega⟩ rfl ?_
            refine V_callVD (nA := 4) C dX9_docks_157 (m_comesIn C.gp hM hB2 (by omega) (by omega) (by omega) (by omega)) gX9_docks_X9_comesIn rfl o9 rfl (by decide +kernel) rfl (by decide) (by decide) (Nat.le_of_ble_eq_true rfl) ⟨by omega, by omega⟩ rfl ?_
            refine V_goto C 177 dX9_docks_160 (by decide) ?_
            refine V_return C E dX9_docks_177 (by omega) (by omega) ?_
            exact Dt_rfl
          · rw [if_neg z4] at E
            refine V_iconst C dX9_docks_144 ?_
            refine V_goto C 149 dX9_docks_145 (by decide) ?_
            refine V_iadd C dX9_docks_149 ?_
            refine V_aload_n C dX9_docks_150 rfl ?_
            refine V_iload C dX9_docks_151 rfl ?_
            refine V_iconst C dX9_docks_153 ?_
            refine V_callVD (nA := 2) C dX9_docks_154 (m_of C.gp hM (by omega) 3 (by decide) rfl) gX9_docks_X9_of rfl o9 rfl (by decide +kernel) rfl (by decide) (by decide) (Nat.le_of_ble_eq_true rfl) ⟨by omega, by omega⟩ rfl ?_
            refine V_callVD (nA := 4) C dX9_docks_157 (m_comesIn C.gp hM hB2 (by omega) (by omega) (by omega) (by omega)) gX9_docks_X9_comesIn rfl o9 rfl (by decide +kernel) rfl (by decide) (by decide) (Nat.le_of_ble_eq_true rfl) ⟨by omega, by omega⟩ rfl ?_
            refine V_goto C 177 dX9_docks_160 (by decide) ?_
            refine V_return C E dX9_docks_177 (by omega) (by omega) ?_
            exact Dt_rfl
    refine V_istore C dX9_docks_92 rfl (by decide) ?_
    refine V_iload_n C dX9_docks_94 rfl ?_
    refine V_iconst C dX9_docks_95 ?_
    refine V_irem C dX9_docks_96 (by omega) (by omega) ?_
    refine V_if_ne C 104 dX9_docks_97 (by decide) (by omega) (fun z5 => ?_) (fun z5 => ?_)
    · refine V_iconst C dX9_docks_104 ?_
      exact ah 0 (by unfold ah2; rw [if_neg z5])
    · refine V_iconst C dX9_docks_100 ?_
      refine V_goto C 105 dX9_docks_101 (by decide) ?_
      exact ah 1 (by unfold ah2; rw [if_pos z5])
  · rw [if_pos (show z = 4 by omega), if_pos (show z = 4 by omega)] at E
    refine V_aload_n C dX9_docks_17 rfl ?_
    refine V_iload C dX9_docks_18 rfl ?_
    refine V_callVD (nA := 1) C dX9_docks_20 (m_tabs C.gp hM hB1 (by omega) hP (by omega)) gX9_docks_X9_tabs rfl o9 rfl (by decide +kernel) rfl (by decide) (by decide) (Nat.le_of_ble_eq_true rfl) ⟨by omega, by omega⟩ rfl ?_
    refine V_istore C dX9_docks_23 rfl (by decide) ?_
    refine V_aload_n C dX9_docks_25 rfl ?_
    refine V_getR C 0 dX9_docks_26 o9 rfl hin_X9_docks_X9 (by decide) lk_X9_docks_7 rfl rfl ?_
    refine V_sipush C dX9_docks_29 (by decide +kernel) ?_
    refine V_iconst C dX9_docks_32 ?_
    refine V_iload_n C dX9_docks_33 rfl ?_
    refine V_imul C dX9_docks_34 ?_
    refine V_iadd C dX9_docks_35 ?_
    refine V_iload C dX9_docks_36 rfl ?_
    refine V_iastJ C dX9_docks_38 hM.2.1 (by first | assumption | decide) (by omega) (ptu_g hx) ?_
    refine V_aload_n C dX9_docks_39 rfl ?_
    refine V_getR C 0 dX9_docks_40 o9 rfl hin_X9_docks_X9 (by decide) lk_X9_docks_7 rfl rfl ?_
    refine V_sipush C dX9_docks_43 (by decide +kernel) ?_
    refine V_iconst C dX9_docks_46 ?_
    refine V_iload_n C dX9_docks_47 rfl ?_
    refine V_imul C dX9_docks_48 ?_
    refine V_iadd C dX9_docks_49 ?_
    refine V_iconst C dX9_docks_50 ?_
    refine V_iadd C dX9_docks_51 ?_
    refine V_iload C dX9_docks_52 rfl ?_
    refine V_iastJ C dX9_docks_54 hM.2.1 (by first | assumption | decide) (by omega) (ptu_p hx) ?_
    refine V_aload_n C dX9_docks_55 rfl ?_
    refine V_iload C dX9_docks_56 rfl ?_
    refine V_iconst C dX9_docks_58 ?_
    refine V_iload_n C dX9_docks_59 rfl ?_
    refine V_callVD (nA := 3) C dX9_docks_60 (m_puts C.gp hM (by omega) 4 (by decide) rfl) gX9_docks_X9_puts rfl o9 rfl (by decide +kernel) rfl (by decide) (by decide) (Nat.le_of_ble_eq_true rfl) ⟨by omega, by omega⟩ rfl ?_
    refine V_aload_n C dX9_docks_63 rfl ?_
    refine V_iload C dX9_docks_64 rfl ?_
    refine V_iconst C dX9_docks_66 ?_
    refine V_iadd C dX9_docks_67 ?_
    refine V_putJ C 19 19 rfl dX9_docks_68 o9 rfl hin_X9_docks_X9 tyX9 tyX9_ok nmX9 (by decide) lk_X9_docks_150 rfl rfl (by decide +kernel) rfl (ptu_r) ?_
    refine V_return C E dX9_docks_71 (by omega) (by omega) ?_
    exact Dt_rfl
set_option maxRecDepth 20000 in
theorem ggX9_docksAt_X9_mayDock : GoodIn wsX9_docksAt wsX9_mayDock := goodIn_r _ [5, 6, 7, 8, 4, 9, 10, 11, 12, 13, 14, 15, 16, 17, 18, 19, 20, 21, 22, 23, 24, 25, 82, 83, 84, 85, 86, 87, 88, 89, 90, 91, 92, 93, 94, 95, 96, 97, 98, 99, 100, 101, 102, 103, 104, 105] (by decide +kernel) (by decide +kernel)
set_option maxRecDepth 20000 in
theorem gX9_docksAt_X9_mayDock : GoodIn wsX9_docksAt (wsV RX9 179 RX9 yX9_mayDock wsX9_mayDock) := goodIn_app (goodIn_of _ (by decide +kernel)) ggX9_docksAt_X9_mayDock
set_option maxRecDepth 20000 in
theorem ggX9_docksAt_X9_docks : GoodIn wsX9_docksAt wsX9_docks := goodIn_r _ [29, 10, 30, 31, 32, 33, 4, 34, 18, 19, 20, 21, 35, 36, 37, 38, 39, 40, 41, 42, 43, 44, 45, 46, 22, 23, 24, 25, 47, 48, 49, 50, 11, 12, 13, 51, 52, 53, 54, 55, 56, 57, 58, 59, 60, 61, 62, 63, 64, 65, 66, 67, 68, 69, 70, 71, 72, 73, 74, 75, 76, 77, 78, 79, 80, 81, 82, 83, 84, 85, 86, 87, 88, 89, 90, 91, 92, 93, 94, 95, 96, 97, 98, 99, 100, 101, 102, 103, 104, 105] (by decide +kernel) (by decide +kernel)
set_option maxRecDepth 20000 in
theorem gX9_docksAt_X9_docks : GoodIn wsX9_docksAt (wsV RX9 183 RX9 yX9_docks wsX9_docks) := goodIn_app (goodIn_of _ (by decide +kernel)) ggX9_docksAt_X9_docks
theorem dX9_docksAt_0 : decode cX9_docksAt 0 = .ok (.aload_n 0, 1) := by decide +kernel
theorem dX9_docksAt_1 : decode cX9_docksAt 1 = .ok (.iload_n 1, 1) := by decide +kernel
theorem dX9_docksAt_2 : decode cX9_docksAt 2 = .ok (.iload_n 2, 1) := by decide +kernel
theorem dX9_docksAt_3 : decode cX9_docksAt 3 = .ok (.iload_n 3, 1) := by decide +kernel
theorem dX9_docksAt_4 : decode cX9_docksAt 4 = .ok (.invokevirtual 179, 3) := by decide +kernel
theorem dX9_docksAt_7 : decode cX9_docksAt 7 = .ok (.istore 4, 2) := by decide +kernel
theorem dX9_docksAt_9 : decode cX9_docksAt 9 = .ok (.iload 4, 2) := by decide +kernel
theorem dX9_docksAt_11 : decode cX9_docksAt 11 = .ok (.ifCond .ne 10, 3) := by decide +kernel
theorem dX9_docksAt_14 : decode cX9_docksAt 14 = .ok (.aload_n 0, 1) := by decide +kernel
theorem dX9_docksAt_15 : decode cX9_docksAt 15 = .ok (.iload_n 1, 1) := by decide +kernel
theorem dX9_docksAt_16 : decode cX9_docksAt 16 = .ok (.iload_n 2, 1) := by decide +kernel
theorem dX9_docksAt_17 : decode cX9_docksAt 17 = .ok (.iload_n 3, 1) := by decide +kernel
theorem dX9_docksAt_18 : decode cX9_docksAt 18 = .ok (.invokevirtual 183, 3) := by decide +kernel
theorem dX9_docksAt_21 : decode cX9_docksAt 21 = .ok (.iload 4, 2) := by decide +kernel
theorem dX9_docksAt_23 : decode cX9_docksAt 23 = .ok (.ireturn, 1) := by decide +kernel
theorem m_docksAt (hG : GP G) (hM : MoS S r) {N : Int} (hB : TB N T) (hN : 100 ≤ N ∧ N ≤ 1073730000) (hP : 0 ≤ mu (r + 1) 2 ∧ mu (r + 1) 2 ≤ 16) {x y z : Int} (hx : -2147483648 ≤ x ∧ x ≤ 2147483647) (hy : -2147483648 ≤ y ∧ y ≤ 2147483647) (hz : -2147483648 ≤ z ∧ z ≤ 2147483647) (ho : mcF T (mu (r + 1) 2) x y z = 0 → okD T (mu (r + 1) 2) x y z) : Ct G l yX9_docksAt wsX9_docksAt 5 0 0 [.ref r, .int (I32 x), .int (I32 y), .int (I32 z)] S n (ptT mu r T) la (Dt (some (.int (I32 (mcF T (mu (r + 1) 2) x y z)))) S n (if mcF T (mu (r + 1) 2) x y z = 0 then ptT (up mu r 19 (dkA T (mu (r + 1) 2) x y z)) r (dkT T (mu (r + 1) 2) x y z) else ptT mu r T) la) := by
  have o9 := hM.1
  have bm : 0 ≤ mcF T (mu (r + 1) 2) x y z ∧ mcF T (mu (r + 1) 2) x y z ≤ 3 := by unfold mcF; (repeat' split) <;> omega
  have bz : mcF T (mu (r + 1) 2) x y z = 0 → (0 ≤ x ∧ x < 16) ∧ (0 ≤ y ∧ y < 16) ∧ 0 ≤ z ∧ z ≤ 4 := by unfold mcF; (repeat' split) <;> omega
  refine Ct.ofV (cc := cX9_docksAt) (nL := 5) (ret := (some .int)) [some (.ref r), some (.int (I32 x)), some (.int (I32 y)), some (.int (I32 z)), none] hG (by decide) rfl (Nat.le_of_ble_eq_true rfl) rfl ?_
  rintro X rfl rfl C hcl hsl E
  refine V_aload_n C dX9_docksAt_0 rfl ?_
  refine V_iload_n C dX9_docksAt_1 rfl ?_
  refine V_iload_n C dX9_docksAt_2 rfl ?_
  refine V_iload_n C dX9_docksAt_3 rfl ?_
  refine V_callVD (nA := 3) C dX9_docksAt_4 (m_mayDock C.gp hM hB (by omega) hP hx hy hz) gX9_docksAt_X9_mayDock rfl o9 rfl (by decide +kernel) rfl (by decide) (by decide) (Nat.le_of_ble_eq_true rfl) ⟨by omega, by omega⟩ rfl ?_
  refine V_istore C dX9_docksAt_7 rfl (by decide) ?_
  refine V_iload C dX9_docksAt_9 rfl ?_
  refine V_if_ne C 21 dX9_docksAt_11 (by decide) (by omega) (fun z1 => ?_) (fun z1 => ?_)
  · rw [if_neg z1] at E
    refine V_iload C dX9_docksAt_21 rfl ?_
    refine V_ireturn C E dX9_docksAt_23 (by omega) (by omega) ?_
    exact Dt_rfl
  · obtain ⟨c1, c2, c3⟩ := bz z1
    rw [if_pos z1] at E
    refine V_aload_n C dX9_docksAt_14 rfl ?_
    refine V_iload_n C dX9_docksAt_15 rfl ?_
    refine V_iload_n C dX9_docksAt_16 rfl ?_
    refine V_iload_n C dX9_docksAt_17 rfl ?_
    refine V_callVD (nA := 3) C dX9_docksAt_18 (m_docks C.gp hM hB hN hP c1 c2 c3 (ho z1)) gX9_docksAt_X9_docks rfl o9 rfl (by decide +kernel) rfl (by decide) (by decide) (Nat.le_of_ble_eq_true rfl) ⟨by omega, by omega⟩ rfl ?_
    refine V_iload C dX9_docksAt_21 rfl ?_
    refine V_ireturn C E dX9_docksAt_23 (by omega) (by omega) ?_
    exact Dt_rfl
set_option maxRecDepth 20000 in
theorem ggX9_adds_X9_in : GoodIn wsX9_adds wsX9_in := goodIn_r _ [6] (by decide +kernel) (by decide +kernel)
set_option maxRecDepth 20000 in
theorem gX9_adds_X9_in : GoodIn wsX9_adds (va_wsS RX9 73 yX9_in wsX9_in) := goodIn_app (goodIn_of _ (by decide +kernel)) ggX9_adds_X9_in
theorem dX9_adds_0 : decode cX9_adds 0 = .ok (.iload_n 1, 1) := by decide +kernel
theorem dX9_adds_1 : decode cX9_adds 1 = .ok (.iconst 1, 1) := by decide +kernel
theorem dX9_adds_2 : decode cX9_adds 2 = .ok (.bipush 60, 2) := by decide +kernel
theorem dX9_adds_4 : decode cX9_adds 4 = .ok (.invokestatic 73, 3) := by decide +kernel
theorem dX9_adds_7 : decode cX9_adds 7 = .ok (.ifCond .eq 13, 3) := by decide +kernel
theorem dX9_adds_10 : decode cX9_adds 10 = .ok (.iload_n 2, 1) := by decide +kernel
theorem dX9_adds_11 : decode cX9_adds 11 = .ok (.iconst 1, 1) := by decide +kernel
theorem dX9_adds_12 : decode cX9_adds 12 = .ok (.bipush 60, 2) := by decide +kernel
theorem dX9_adds_14 : decode cX9_adds 14 = .ok (.invokestatic 73, 3) := by decide +kernel
theorem dX9_adds_17 : decode cX9_adds 17 = .ok (.ifCond .ne 5, 3) := by decide +kernel
theorem dX9_adds_20 : decode cX9_adds 20 = .ok (.iconst 1, 1) := by decide +kernel
theorem dX9_adds_21 : decode cX9_adds 21 = .ok (.ireturn, 1) := by decide +kernel
theorem dX9_adds_22 : decode cX9_adds 22 = .ok (.aload_n 0, 1) := by decide +kernel
theorem dX9_adds_23 : decode cX9_adds 23 = .ok (.getfield 7, 3) := by decide +kernel
theorem dX9_adds_26 : decode cX9_adds 26 = .ok (.iconst 2, 1) := by decide +kernel
theorem dX9_adds_27 : decode cX9_adds 27 = .ok (.iaload, 1) := by decide +kernel
theorem dX9_adds_28 : decode cX9_adds 28 = .ok (.bipush 16, 2) := by decide +kernel
theorem dX9_adds_30 : decode cX9_adds 30 = .ok (.if_icmp .ne 5, 3) := by decide +kernel
theorem dX9_adds_33 : decode cX9_adds 33 = .ok (.iconst 2, 1) := by decide +kernel
theorem dX9_adds_34 : decode cX9_adds 34 = .ok (.ireturn, 1) := by decide +kernel
theorem dX9_adds_35 : decode cX9_adds 35 = .ok (.aload_n 0, 1) := by decide +kernel
theorem dX9_adds_36 : decode cX9_adds 36 = .ok (.aload_n 0, 1) := by decide +kernel
theorem dX9_adds_37 : decode cX9_adds 37 = .ok (.getfield 7, 3) := by decide +kernel
theorem dX9_adds_40 : decode cX9_adds 40 = .ok (.iconst 2, 1) := by decide +kernel
theorem dX9_adds_41 : decode cX9_adds 41 = .ok (.iaload, 1) := by decide +kernel
theorem dX9_adds_42 : decode cX9_adds 42 = .ok (.putfield 150, 3) := by decide +kernel
theorem dX9_adds_45 : decode cX9_adds 45 = .ok (.aload_n 0, 1) := by decide +kernel
theorem dX9_adds_46 : decode cX9_adds 46 = .ok (.getfield 7, 3) := by decide +kernel
theorem dX9_adds_49 : decode cX9_adds 49 = .ok (.iconst 3, 1) := by decide +kernel
theorem dX9_adds_50 : decode cX9_adds 50 = .ok (.iconst 2, 1) := by decide +kernel
theorem dX9_adds_51 : decode cX9_adds 51 = .ok (.aload_n 0, 1) := by decide +kernel
theorem dX9_adds_52 : decode cX9_adds 52 = .ok (.getfield 150, 3) := by decide +kernel
theorem dX9_adds_55 : decode cX9_adds 55 = .ok (.imul, 1) := by decide +kernel
theorem dX9_adds_56 : decode cX9_adds 56 = .ok (.iadd, 1) := by decide +kernel
theorem dX9_adds_57 : decode cX9_adds 57 = .ok (.iload_n 1, 1) := by decide +kernel
theorem dX9_adds_58 : decode cX9_adds 58 = .ok (.iastore, 1) := by decide +kernel
theorem dX9_adds_59 : decode cX9_adds 59 = .ok (.aload_n 0, 1) := by decide +kernel
theorem dX9_adds_60 : decode cX9_adds 60 = .ok (.getfield 7, 3) := by decide +kernel
theorem dX9_adds_63 : decode cX9_adds 63 = .ok (.iconst 3, 1) := by decide +kernel
theorem dX9_adds_64 : decode cX9_adds 64 = .ok (.iconst 2, 1) := by decide +kernel
theorem dX9_adds_65 : decode cX9_adds 65 = .ok (.aload_n 0, 1) := by decide +kernel
theorem dX9_adds_66 : decode cX9_adds 66 = .ok (.getfield 150, 3) := by decide +kernel
theorem dX9_adds_69 : decode cX9_adds 69 = .ok (.imul, 1) := by decide +kernel
theorem dX9_adds_70 : decode cX9_adds 70 = .ok (.iadd, 1) := by decide +kernel
theorem dX9_adds_71 : decode cX9_adds 71 = .ok (.iconst 1, 1) := by decide +kernel
theorem dX9_adds_72 : decode cX9_adds 72 = .ok (.iadd, 1) := by decide +kernel
theorem dX9_adds_73 : decode cX9_adds 73 = .ok (.iload_n 2, 1) := by decide +kernel
theorem dX9_adds_74 : decode cX9_adds 74 = .ok (.iastore, 1) := by decide +kernel
theorem dX9_adds_75 : decode cX9_adds 75 = .ok (.aload_n 0, 1) := by decide +kernel
theorem dX9_adds_76 : decode cX9_adds 76 = .ok (.getfield 7, 3) := by decide +kernel
theorem dX9_adds_79 : decode cX9_adds 79 = .ok (.sipush 323, 3) := by decide +kernel
theorem dX9_adds_82 : decode cX9_adds 82 = .ok (.iconst 2, 1) := by decide +kernel
theorem dX9_adds_83 : decode cX9_adds 83 = .ok (.aload_n 0, 1) := by decide +kernel
theorem dX9_adds_84 : decode cX9_adds 84 = .ok (.getfield 150, 3) := by decide +kernel
theorem dX9_adds_87 : decode cX9_adds 87 = .ok (.imul, 1) := by decide +kernel
theorem dX9_adds_88 : decode cX9_adds 88 = .ok (.iadd, 1) := by decide +kernel
theorem dX9_adds_89 : decode cX9_adds 89 = .ok (.iconst (-1), 1) := by decide +kernel
theorem dX9_adds_90 : decode cX9_adds 90 = .ok (.iastore, 1) := by decide +kernel
theorem dX9_adds_91 : decode cX9_adds 91 = .ok (.aload_n 0, 1) := by decide +kernel
theorem dX9_adds_92 : decode cX9_adds 92 = .ok (.getfield 7, 3) := by decide +kernel
theorem dX9_adds_95 : decode cX9_adds 95 = .ok (.sipush 323, 3) := by decide +kernel
theorem dX9_adds_98 : decode cX9_adds 98 = .ok (.iconst 2, 1) := by decide +kernel
theorem dX9_adds_99 : decode cX9_adds 99 = .ok (.aload_n 0, 1) := by decide +kernel
theorem dX9_adds_100 : decode cX9_adds 100 = .ok (.getfield 150, 3) := by decide +kernel
theorem dX9_adds_103 : decode cX9_adds 103 = .ok (.imul, 1) := by decide +kernel
theorem dX9_adds_104 : decode cX9_adds 104 = .ok (.iadd, 1) := by decide +kernel
theorem dX9_adds_105 : decode cX9_adds 105 = .ok (.iconst 1, 1) := by decide +kernel
theorem dX9_adds_106 : decode cX9_adds 106 = .ok (.iadd, 1) := by decide +kernel
theorem dX9_adds_107 : decode cX9_adds 107 = .ok (.iconst 0, 1) := by decide +kernel
theorem dX9_adds_108 : decode cX9_adds 108 = .ok (.iastore, 1) := by decide +kernel
theorem dX9_adds_109 : decode cX9_adds 109 = .ok (.aload_n 0, 1) := by decide +kernel
theorem dX9_adds_110 : decode cX9_adds 110 = .ok (.getfield 7, 3) := by decide +kernel
theorem dX9_adds_113 : decode cX9_adds 113 = .ok (.iconst 2, 1) := by decide +kernel
theorem dX9_adds_114 : decode cX9_adds 114 = .ok (.dup2, 1) := by decide +kernel
theorem dX9_adds_115 : decode cX9_adds 115 = .ok (.iaload, 1) := by decide +kernel
theorem dX9_adds_116 : decode cX9_adds 116 = .ok (.iconst 1, 1) := by decide +kernel
theorem dX9_adds_117 : decode cX9_adds 117 = .ok (.iadd, 1) := by decide +kernel
theorem dX9_adds_118 : decode cX9_adds 118 = .ok (.iastore, 1) := by decide +kernel
theorem dX9_adds_119 : decode cX9_adds 119 = .ok (.iconst 0, 1) := by decide +kernel
theorem dX9_adds_120 : decode cX9_adds 120 = .ok (.ireturn, 1) := by decide +kernel
theorem hin_X9_adds_X9 : ∀ w ∈ wsX90, w ∈ wsX9_adds := by decide +kernel
theorem lk_X9_adds_7 : Cond.fieldLink RX9 7 RX9 "s" "[I" ∈ wsX9_adds := by decide +kernel
theorem lk_X9_adds_150 : Cond.fieldLink RX9 150 RX9 "answer" "I" ∈ wsX9_adds := by decide +kernel
def adF (P w h : Int) : Int := if ¬ (1 ≤ w ∧ w ≤ 60) ∨ ¬ (1 ≤ h ∧ h ≤ 60) then 1 else if P = 16 then 2 else 0
def adB (mu : Mem) (r : Nat) (w h : Int) : Mem := up (up (up (up mu r 19 (mu (r + 1) 2)) (r + 1) (3 + 2 * mu (r + 1) 2) w) (r + 1) (3 + 2 * mu (r + 1) 2 + 1) h) (r + 1) 2 (mu (r + 1) 2 + 1)
def adM (mu : Mem) (r : Nat) (T : Mem) (w h : Int) : Mem := ptT (adB mu r w h) r (up (up T 9 (mu (r + 1) 2) (-1)) 10 (mu (r + 1) 2) 0)
theorem m_adds (hG : GP G) (hM : MoS S r) (hP : 0 ≤ mu (r + 1) 2 ∧ mu (r + 1) 2 ≤ 16) {x y : Int} (hx : -2147483648 ≤ x ∧ x ≤ 2147483647) (hy : -2147483648 ≤ y ∧ y ≤ 2147483647) : Ct G l yX9_adds wsX9_adds 1 0 0 [.ref r, .int (I32 x), .int (I32 y)] S n (ptT mu r T) la (Dt (some (.int (I32 (adF (mu (r + 1) 2) x y)))) S n (if adF (mu (r + 1) 2) x y = 0 then adM mu r T x y else ptT mu r T) la) := by
  have o9 := hM.1
  have b1 := inI_b x 1 60
  have b2 := inI_b y 1 60
  have q1 : inI x 1 60 = 1 → 1 ≤ x ∧ x ≤ 60 := by unfold inI; split <;> omega
  have q1' : inI x 1 60 = 0 → ¬ (1 ≤ x ∧ x ≤ 60) := by unfold inI; split <;> omega
  have q2 : inI y 1 60 = 1 → 1 ≤ y ∧ y ≤ 60 := by unfold inI; split <;> omega
  have q2' : inI y 1 60 = 0 → ¬ (1 ≤ y ∧ y ≤ 60) := by unfold inI; split <;> omega
  unfold adF
  refine Ct.ofV (cc := cX9_adds) (nL := 3) (ret := (some .int)) [some (.ref r), some (.int (I32 x)), some (.int (I32 y))] hG (by decide) rfl (Nat.le_of_ble_eq_true rfl) rfl ?_
  rintro X rfl rfl C hcl hsl E
  have bad : V X 20 [some (.ref r), some (.int (I32 x)), some (.int (I32 y))] [] S n (ptT mu r T) la 0 0 ∨ ((1 ≤ x ∧ x ≤ 60) ∧ 1 ≤ y ∧ y ≤ 60) := by
    by_cases hb : (1 ≤ x ∧ x ≤ 60) ∧ 1 ≤ y ∧ y ≤ 60
    · exact Or.inr hb
    · refine Or.inl ?_
      rw [if_pos (show ¬ (1 ≤ x ∧ x ≤ 60) ∨ ¬ (1 ≤ y ∧ y ≤ 60) by omega)] at E
      refine V_iconst C dX9_adds_20 ?_
      refine V_ireturn C E dX9_adds_21 (by omega) (by omega) ?_
      exact Dt_rfl
  have good : ((1 ≤ x ∧ x ≤ 60) ∧ 1 ≤ y ∧ y ≤ 60) → V X 22 [some (.ref r), some (.int (I32 x)), some (.int (I32 y))] [] S n (ptT mu r T) la 0 0 := by
    intro hok
    rw [if_neg (show ¬ (¬ (1 ≤ x ∧ x ≤ 60) ∨ ¬ (1 ≤ y ∧ y ≤ 60)) by omega)] at E
    refine V_aload_n C dX9_adds_22 rfl ?_
    refine V_getR C 0 dX9_adds_23 o9 rfl hin_X9_adds_X9 (by decide) lk_X9_adds_7 rfl rfl ?_
    refine V_iconst C dX9_adds_26 ?_
    refine V_ialdJ C dX9_adds_27 hM.2.1 (by first | assumption | decide) (by omega) (pt_lo (by decide)) ?_
    refine V_bipush C dX9_adds_28 (by decide +kernel) ?_
    refine V_icmp_ne C 35 dX9_adds_30 (by decide) (by omega) (by omega) (fun z1 => ?_) (fun z1 => ?_)
    · rw [if_neg z1] at E
      refine V_aload_n C dX9_adds_35 rfl ?_
      refine V_aload_n C dX9_adds_36 rfl ?_
      refine V_getR C 0 dX9_adds_37 o9 rfl hin_X9_adds_X9 (by decide) lk_X9_adds_7 rfl rfl ?_
      refine V_iconst C dX9_adds_40 ?_
      refine V_ialdJ C dX9_adds_41 hM.2.1 (by first | assumption | decide) (by omega) (pt_lo (by decide)) ?_
      refine V_putJ C 19 19 rfl dX9_adds_42 o9 rfl hin_X9_adds_X9 tyX9 tyX9_ok nmX9 (by decide) lk_X9_adds_150 rfl rfl (by decide +kernel) rfl (ptu_r) ?_
      refine V_aload_n C dX9_adds_45 rfl ?_
      refine V_getR C 0 dX9_adds_46 o9 rfl hin_X9_adds_X9 (by decide) lk_X9_adds_7 rfl rfl ?_
      refine V_iconst C dX9_adds_49 ?_
      refine V_iconst C dX9_adds_50 ?_
      refine V_aload_n C dX9_adds_51 rfl ?_
      refine V_getJ C 19 19 rfl dX9_adds_52 o9 rfl hin_X9_adds_X9 (by decide) lk_X9_adds_150 rfl rfl (pt_r.trans (up_s _ _ _ _)) ?_
      refine V_imul C dX9_adds_55 ?_
      refine V_iadd C dX9_adds_56 ?_
      refine V_iload_n C dX9_adds_57 rfl ?_
      refine V_iastJ C dX9_adds_58 hM.2.1 (by first | assumption | decide) (by omega) (ptu_lo (by omega)) ?_
      refine V_aload_n C dX9_adds_59 rfl ?_
      refine V_getR C 0 dX9_adds_60 o9 rfl hin_X9_adds_X9 (by decide) lk_X9_adds_7 rfl rfl ?_
      refine V_iconst C dX9_adds_63 ?_
      refine V_iconst C dX9_adds_64 ?_
      refine V_aload_n C dX9_adds_65 rfl ?_
      refine V_getJ C 19 19 rfl dX9_adds_66 o9 rfl hin_X9_adds_X9 (by decide) lk_X9_adds_150 rfl rfl (pt_r.trans ((up_a _ _ _ _ (by omega)).trans (up_s _ _ _ _))) ?_
      refine V_imul C dX9_adds_69 ?_
      refine V_iadd C dX9_adds_70 ?_
      refine V_iconst C dX9_adds_71 ?_
      refine V_iadd C dX9_adds_72 ?_
      refine V_iload_n C dX9_adds_73 rfl ?_
      refine V_iastJ C dX9_adds_74 hM.2.1 (by first | assumption | decide) (by omega) (ptu_lo (by omega)) ?_
      refine V_aload_n C dX9_adds_75 rfl ?_
      refine V_getR C 0 dX9_adds_76 o9 rfl hin_X9_adds_X9 (by decide) lk_X9_adds_7 rfl rfl ?_
      refine V_sipush C dX9_adds_79 (by decide +kernel) ?_
      refine V_iconst C dX9_adds_82 ?_
      refine V_aload_n C dX9_adds_83 rfl ?_
      refine V_getJ C 19 19 rfl dX9_adds_84 o9 rfl hin_X9_adds_X9 (by decide) lk_X9_adds_150 rfl rfl (pt_r.trans ((up_a _ _ _ _ (by omega)).trans ((up_a _ _ _ _ (by omega)).trans (up_s _ _ _ _)))) ?_
      refine V_imul C dX9_adds_87 ?_
      refine V_iadd C dX9_adds_88 ?_
      refine V_iconst C dX9_adds_89 ?_
      refine V_iastJ C dX9_adds_90 hM.2.1 (by first | assumption | decide) (by omega) (ptu_g (by omega)) ?_
      refine V_aload_n C dX9_adds_91 rfl ?_
      refine V_getR C 0 dX9_adds_92 o9 rfl hin_X9_adds_X9 (by decide) lk_X9_adds_7 rfl rfl ?_
      refine V_sipush C dX9_adds_95 (by decide +kernel) ?_
      refine V_iconst C dX9_adds_98 ?_
      refine V_aload_n C dX9_adds_99 rfl ?_
      refine V_getJ C 19 19 rfl dX9_adds_100 o9 rfl hin_X9_adds_X9 (by decide) lk_X9_adds_150 rfl rfl (pt_r.trans ((up_a _ _ _ _ (by omega)).trans ((up_a _ _ _ _ (by omega)).trans (up_s _ _ _ _)))) ?_
      refine V_imul C dX9_adds_103 ?_
      refine V_iadd C dX9_adds_104 ?_
      refine V_iconst C dX9_adds_105 ?_
      refine V_iadd C dX9_adds_106 ?_
      refine V_iconst C dX9_adds_107 ?_
      refine V_iastJ C dX9_adds_108 hM.2.1 (by first | assumption | decide) (by omega) (ptu_p (by omega)) ?_
      refine V_aload_n C dX9_adds_109 rfl ?_
      refine V_getR C 0 dX9_adds_110 o9 rfl hin_X9_adds_X9 (by decide) lk_X9_adds_7 rfl rfl ?_
      refine V_iconst C dX9_adds_113 ?_
      refine V_dup2 C dX9_adds_114 rfl rfl ?_
      refine V_ialdJ C dX9_adds_115 hM.2.1 (by decide) (by omega) (x := mu (r + 1) 2) ?_ ?_
      · rw [pt_lo (by decide), up_i _ _ _ (by omega), up_i _ _ _ (by omega), up_a _ _ _ _ (by omega)]
      · refine V_iconst C dX9_adds_116 ?_
        refine V_iadd C dX9_adds_117 ?_
        refine V_iastJ C dX9_adds_118 hM.2.1 (by first | assumption | decide) (by omega) (ptu_lo (by decide)) ?_
        refine V_iconst C dX9_adds_119 ?_
        refine V_ireturn C E dX9_adds_120 (by omega) (by omega) ?_
        exact Dt_rfl
    · rw [if_pos z1] at E
      refine V_iconst C dX9_adds_33 ?_
      refine V_ireturn C E dX9_adds_34 (by omega) (by omega) ?_
      exact Dt_rfl
  refine V_iload_n C dX9_adds_0 rfl ?_
  refine V_iconst C dX9_adds_1 ?_
  refine V_bipush C dX9_adds_2 (by decide +kernel) ?_
  refine V_callSD (nA := 3) C dX9_adds_4 (m_in C.gp hx (by omega) (by omega)) gX9_adds_X9_in rfl (by decide +kernel) rfl (by decide) (by decide) (Nat.le_of_ble_eq_true rfl) ⟨by omega, by omega⟩ rfl ?_
  refine V_if_eq C 20 dX9_adds_7 (by decide) (by omega) (fun z7 => ?_) (fun z7 => ?_)
  · rcases bad with bad | bad
    · exact bad
    · omega
  · refine V_iload_n C dX9_adds_10 rfl ?_
    refine V_iconst C dX9_adds_11 ?_
    refine V_bipush C dX9_adds_12 (by decide +kernel) ?_
    refine V_callSD (nA := 3) C dX9_adds_14 (m_in C.gp hy (by omega) (by omega)) gX9_adds_X9_in rfl (by decide +kernel) rfl (by decide) (by decide) (Nat.le_of_ble_eq_true rfl) ⟨by omega, by omega⟩ rfl ?_
    refine V_if_ne C 22 dX9_adds_17 (by decide) (by omega) (fun z17 => ?_) (fun z17 => ?_)
    · exact good (by omega)
    · rcases bad with bad | bad
      · exact bad
      · omega
set_option maxRecDepth 20000 in
theorem ggX9_closes_X9_isPane : GoodIn wsX9_closes wsX9_isPane := goodIn_r _ [6, 7, 8, 9, 5, 10, 55, 56, 57, 58, 59, 60, 61, 62, 63, 64, 65, 66, 67, 68, 69, 70, 71, 72, 73, 74, 75, 76, 77, 78] (by decide +kernel) (by decide +kernel)
set_option maxRecDepth 20000 in
theorem gX9_closes_X9_isPane : GoodIn wsX9_closes (wsV RX9 156 RX9 yX9_isPane wsX9_isPane) := goodIn_app (goodIn_of _ (by decide +kernel)) ggX9_closes_X9_isPane
set_option maxRecDepth 20000 in
theorem ggX9_closes_X9_stateOf : GoodIn wsX9_closes wsX9_stateOf := goodIn_r _ [14, 15, 16, 17, 5, 18, 7, 19, 20, 21, 22, 55, 56, 57, 58, 59, 60, 61, 62, 63, 64, 65, 66, 67, 68, 69, 70, 71, 72, 73, 74, 75, 76, 77, 78] (by decide +kernel) (by decide +kernel)
set_option maxRecDepth 20000 in
theorem gX9_closes_X9_stateOf : GoodIn wsX9_closes (wsV RX9 159 RX9 yX9_stateOf wsX9_stateOf) := goodIn_app (goodIn_of _ (by decide +kernel)) ggX9_closes_X9_stateOf
set_option maxRecDepth 20000 in
theorem ggX9_closes_X9_takesAway : GoodIn wsX9_closes wsX9_takesAway := goodIn_r _ [26, 7, 15, 16, 17, 5, 18, 27, 28, 29, 30, 31, 32, 33, 34, 35, 36, 37, 38, 19, 20, 21, 22, 39, 40, 41, 42, 8, 9, 10, 43, 44, 45, 46, 47, 48, 49, 50, 51, 52, 53, 54, 55, 56, 57, 58, 59, 60, 61, 62, 63, 64, 65, 66, 67, 68, 69, 70, 71, 72, 73, 74, 75, 76, 77, 78] (by decide +kernel) (by decide +kernel)
set_option maxRecDepth 20000 in
theorem gX9_closes_X9_takesAway : GoodIn wsX9_closes (wsV RX9 162 RX9 yX9_takesAway wsX9_takesAway) := goodIn_app (goodIn_of _ (by decide +kernel)) ggX9_closes_X9_takesAway
theorem dX9_closes_0 : decode cX9_closes 0 = .ok (.aload_n 0, 1) := by decide +kernel
theorem dX9_closes_1 : decode cX9_closes 1 = .ok (.iload_n 1, 1) := by decide +kernel
theorem dX9_closes_2 : decode cX9_closes 2 = .ok (.invokevirtual 156, 3) := by decide +kernel
theorem dX9_closes_5 : decode cX9_closes 5 = .ok (.ifCond .ne 5, 3) := by decide +kernel
theorem dX9_closes_8 : decode cX9_closes 8 = .ok (.iconst 1, 1) := by decide +kernel
theorem dX9_closes_9 : decode cX9_closes 9 = .ok (.ireturn, 1) := by decide +kernel
theorem dX9_closes_10 : decode cX9_closes 10 = .ok (.aload_n 0, 1) := by decide +kernel
theorem dX9_closes_11 : decode cX9_closes 11 = .ok (.aload_n 0, 1) := by decide +kernel
theorem dX9_closes_12 : decode cX9_closes 12 = .ok (.iload_n 1, 1) := by decide +kernel
theorem dX9_closes_13 : decode cX9_closes 13 = .ok (.invokevirtual 159, 3) := by decide +kernel
theorem dX9_closes_16 : decode cX9_closes 16 = .ok (.putfield 150, 3) := by decide +kernel
theorem dX9_closes_19 : decode cX9_closes 19 = .ok (.aload_n 0, 1) := by decide +kernel
theorem dX9_closes_20 : decode cX9_closes 20 = .ok (.iload_n 1, 1) := by decide +kernel
theorem dX9_closes_21 : decode cX9_closes 21 = .ok (.invokevirtual 162, 3) := by decide +kernel
theorem dX9_closes_24 : decode cX9_closes 24 = .ok (.iconst 0, 1) := by decide +kernel
theorem dX9_closes_25 : decode cX9_closes 25 = .ok (.ireturn, 1) := by decide +kernel
theorem hin_X9_closes_X9 : ∀ w ∈ wsX90, w ∈ wsX9_closes := by decide +kernel
theorem lk_X9_closes_150 : Cond.fieldLink RX9 150 RX9 "answer" "I" ∈ wsX9_closes := by decide +kernel
def clF (P p : Int) : Int := if 0 ≤ p ∧ p ≤ P - 1 then 0 else 1
theorem m_closes (hG : GP G) (hM : MoS S r) {N : Int} (hB : TB N T) (hN : 100 ≤ N ∧ N ≤ 1073730000) (hP : 0 ≤ mu (r + 1) 2 ∧ mu (r + 1) 2 ≤ 16) {x : Int} (hx : -2147483648 ≤ x ∧ x ≤ 2147483647) (ho : clF (mu (r + 1) 2) x = 0 → okT T (mu (r + 1) 2) x) : Ct G l yX9_closes wsX9_closes 4 0 0 [.ref r, .int (I32 x)] S n (ptT mu r T) la (Dt (some (.int (I32 (clF (mu (r + 1) 2) x)))) S n (if clF (mu (r + 1) 2) x = 0 then ptT (up mu r 19 (sxT T x)) r (tkT T (mu (r + 1) 2) x) else ptT mu r T) la) := by
  have o9 := hM.1
  have hP' : 0 ≤ ptT mu r T (r + 1) 2 ∧ ptT mu r T (r + 1) 2 ≤ 16 := by rw [pt_lo (by decide)]; exact hP
  have e2 : ptT mu r T (r + 1) 2 = mu (r + 1) 2 := pt_lo (by decide)
  have e3 : up mu r 19 (sxT T x) (r + 1) 2 = mu (r + 1) 2 := up_a _ _ _ _ (by omega)
  unfold clF at ho ⊢
  have b1 := inI_b x 0 (mu (r + 1) 2 - 1)
  refine Ct.ofV (cc := cX9_closes) (nL := 2) (ret := (some .int)) [some (.ref r), some (.int (I32 x))] hG (by decide) rfl (Nat.le_of_ble_eq_true rfl) rfl ?_
  rintro X rfl rfl C hcl hsl E
  refine V_aload_n C dX9_closes_0 rfl ?_
  refine V_iload_n C dX9_closes_1 rfl ?_
  refine V_callVD (nA := 1) C dX9_closes_2 (m_isPane C.gp hM hP' hx) gX9_closes_X9_isPane rfl o9 rfl (by decide +kernel) rfl (by decide) (by decide) (Nat.le_of_ble_eq_true rfl) ⟨by omega, by omega⟩ rfl ?_
  rw [e2]
  by_cases hb : 0 ≤ x ∧ x ≤ mu (r + 1) 2 - 1
  · rw [if_pos hb] at ho
    rw [if_pos hb, if_pos rfl] at E
    rw [inI, if_pos hb]
    refine V_if_ne C 10 dX9_closes_5 (by decide) (by omega) (fun z1 => ?_) (fun z1 => ?_)
    · refine V_aload_n C dX9_closes_10 rfl ?_
      refine V_aload_n C dX9_closes_11 rfl ?_
      refine V_iload_n C dX9_closes_12 rfl ?_
      refine V_callVD (nA := 1) C dX9_closes_13 (m_stateOf C.gp hM hB (by omega) (by omega)) gX9_closes_X9_stateOf rfl o9 rfl (by decide +kernel) rfl (by decide) (by decide) (Nat.le_of_ble_eq_true rfl) ⟨by omega, by omega⟩ rfl ?_
      refine V_putJ C 19 19 rfl dX9_closes_16 o9 rfl hin_X9_closes_X9 tyX9 tyX9_ok nmX9 (by decide) lk_X9_closes_150 rfl rfl (by decide +kernel) rfl (ptu_r) ?_
      refine V_aload_n C dX9_closes_19 rfl ?_
      refine V_iload_n C dX9_closes_20 rfl ?_
      have h9 := m_takesAway (l := xL X) (n := n) (la := la) (mu := up mu r 19 (sxT T x)) C.gp hM hB (by omega) (by rw [e3]; exact hP) (x := x) (by omega) (by rw [e3]; exact ho rfl)
      rw [e3] at h9
      refine V_callVD (nA := 1) C dX9_closes_21 h9 gX9_closes_X9_takesAway rfl o9 rfl (by decide +kernel) rfl (by decide) (by decide) (Nat.le_of_ble_eq_true rfl) ⟨by omega, by omega⟩ rfl ?_
      refine V_iconst C dX9_closes_24 ?_
      refine V_ireturn C E dX9_closes_25 (by omega) (by omega) ?_
      exact Dt_rfl
    · exact absurd z1 (by decide)
  · rw [if_neg hb, if_neg (by decide)] at E
    rw [inI, if_neg hb]
    refine V_if_ne C 10 dX9_closes_5 (by decide) (by omega) (fun z1 => ?_) (fun z1 => ?_)
    · exact absurd rfl z1
    · refine V_iconst C dX9_closes_8 ?_
      refine V_ireturn C E dX9_closes_9 (by omega) (by omega) ?_
      exact Dt_rfl
end M3
