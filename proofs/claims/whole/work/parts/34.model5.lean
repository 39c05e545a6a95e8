/-! THE REFERENCE: its public calls that change the state -/
def hdM (mu : Mem) (r : Nat) : Mem := cpF mu (r + 1) (r + 3) 1639
def MWo (mu : Mem) (r : Nat) : Prop := R32 mu ∧ TB 10000000 (trT mu r) ∧ (0 ≤ mu (r + 1) 2 ∧ mu (r + 1) 2 ≤ 16) ∧ (0 ≤ mu r 4 ∧ mu r 4 ≤ 4) ∧ (0 ≤ mu r 6 ∧ mu r 6 ≤ 150)
theorem hdM_pt (mu : Mem) (r : Nat) : hdM mu r = ptT (hdM mu r) r (trT mu r) := by
  have h := pt_self (hdM mu r) r
  rw [show trT (hdM mu r) r = trT mu r from cpF_hold] at h
  exact h.symm
theorem hdM_1 (mu : Mem) (r : Nat) (i : Int) : hdM mu r (r + 1) i = mu (r + 1) i := cpF_off (by omega) i
theorem hdM_r (mu : Mem) (r : Nat) (i : Int) : hdM mu r r i = mu r i := cpF_off (by omega) i
theorem hdM_R {mu : Mem} (h : R32 mu) (r : Nat) : R32 (hdM mu r) := R32_cpF h _ _ _
def unM (mu : Mem) (r : Nat) : Mem := fun a i => if a = r + 1 ∧ 0 ≤ i ∧ i < 1639 then mu (r + 2) (1639 * (mu r 4 - 1) + i) else if a = r ∧ i = 4 then mu r 4 - 1 else if a = r ∧ i = 7 then 0 else mu a i
def unP (mu : Mem) (r : Nat) (j : Int) : Mem := fun a i => if a = r + 1 ∧ 0 ≤ i ∧ i < j then mu (r + 2) (1639 * (mu r 4 - 1) + i) else up mu r 4 (mu r 4 - 1) a i
theorem unP_0 (mu : Mem) (r : Nat) : unP mu r 0 = up mu r 4 (mu r 4 - 1) := by funext a i; unfold unP; rw [if_neg (by omega)]
theorem unP_4 (mu : Mem) (r : Nat) (j : Int) : unP mu r j r 4 = mu r 4 - 1 := by unfold unP; rw [if_neg (by omega), up_s]
theorem unP_2 (mu : Mem) (r : Nat) (j i : Int) : unP mu r j (r + 2) i = mu (r + 2) i := by unfold unP; rw [if_neg (by omega), up_a _ _ _ _ (by omega)]
theorem unP_s {mu : Mem} {r : Nat} {j : Int} (hj : 0 ≤ j) : up (unP mu r j) (r + 1) j (mu (r + 2) (1639 * (mu r 4 - 1) + j)) = unP mu r (j + 1) := by
  funext a i
  rw [up_e]
  unfold unP
  by_cases q1 : a = r + 1 ∧ i = j
  · rw [if_pos q1, if_pos (by omega), q1.2]
  · rw [if_neg q1]
    by_cases q2 : a = r + 1 ∧ 0 ≤ i ∧ i < j
    · rw [if_pos q2, if_pos (by omega)]
    · rw [if_neg q2, if_neg (by omega)]
theorem unP_all (mu : Mem) (r : Nat) : up (unP mu r 1639) r 7 0 = unM mu r := by
  funext a i
  rw [up_e]
  unfold unP unM
  rw [up_e]
  by_cases q1 : a = r + 1 ∧ 0 ≤ i ∧ i < 1639
  · rw [if_neg (by omega), if_pos q1, if_pos q1]
  · rw [if_neg q1, if_neg q1]
    by_cases q2 : a = r ∧ i = 7
    · rw [if_pos q2, if_neg (by omega), if_pos q2]
    · rw [if_neg q2, if_neg q2]
def swM (mu : Mem) (r : Nat) (w h : Int) : Mem := enM (up (up (hdM mu r) (r + 1) 0 w) (r + 1) 1 h) r
def slM (mu : Mem) (r : Nat) (p w h : Int) : Mem := enM (up (up (hdM mu r) (r + 1) (3 + 2 * p) w) (r + 1) (3 + 2 * p + 1) h) r
def rzP (T : Mem) (ps j : Int) : Mem := fun w o => if w = 2 ∧ 0 ≤ o ∧ o < j ∧ T 0 o = 4 ∧ ps < T 2 o then T 2 o - 1 else T w o
def rzT (T : Mem) (g : Int) : Mem := up (rzP T (T 2 g) 32) 2 g (ctT (rzP T (T 2 g) 32) 4 - 1)
def mvI (T : Mem) (was y o : Int) : Int := if (if was < T 10 o then T 10 o - 1 else T 10 o) < y then (if was < T 10 o then T 10 o - 1 else T 10 o) else (if was < T 10 o then T 10 o - 1 else T 10 o) + 1
def mvP (T : Mem) (g p was y j : Int) : Mem := fun w o => if w = 10 ∧ 0 ≤ o ∧ o < j ∧ T 9 o = g ∧ o ≠ p then mvI T was y o else T w o
def mvT (T : Mem) (P p y : Int) : Mem := up (mvP T (T 9 p) p (T 10 p) y P) 10 p y
theorem rzP_0 (T : Mem) (ps : Int) : rzP T ps 0 = T := by funext w o; unfold rzP; rw [if_neg (by omega)]
theorem mvP_0 (T : Mem) (g p was y : Int) : mvP T g p was y 0 = T := by funext w o; unfold mvP; rw [if_neg (by omega)]
theorem rzP_k (T : Mem) (ps j o : Int) {w : Nat} (hw : w ≠ 2) : rzP T ps j w o = T w o := by unfold rzP; rw [if_neg (by omega)]
theorem mvP_k (T : Mem) (g p was y j o : Int) {w : Nat} (hw : w ≠ 10) : mvP T g p was y j w o = T w o := by unfold mvP; rw [if_neg (by omega)]
theorem rzP_hi (T : Mem) (ps j o : Int) (ho : j ≤ o) (w : Nat) : rzP T ps j w o = T w o := by unfold rzP; rw [if_neg (by omega)]
theorem mvP_hi (T : Mem) (g p was y j o : Int) (ho : j ≤ o) (w : Nat) : mvP T g p was y j w o = T w o := by unfold mvP; rw [if_neg (by omega)]
theorem rzP_no {T : Mem} {ps j : Int} (h : ¬ (T 0 j = 4 ∧ ps < T 2 j)) : rzP T ps (j + 1) = rzP T ps j := by
  funext w o
  unfold rzP
  by_cases ho : o = j
  · subst ho; rw [if_neg (by omega), if_neg (by omega)]
  · by_cases c : w = 2 ∧ 0 ≤ o ∧ o < j ∧ T 0 o = 4 ∧ ps < T 2 o
    · rw [if_pos c, if_pos (by omega)]
    · rw [if_neg c, if_neg (by omega)]
theorem rzP_yes {T : Mem} {ps j : Int} (hj : 0 ≤ j) (h : T 0 j = 4 ∧ ps < T 2 j) : up (rzP T ps j) 2 j (T 2 j - 1) = rzP T ps (j + 1) := by
  funext w o
  unfold up rzP
  try dsimp only
  by_cases ho : w = 2 ∧ o = j
  · rw [if_pos ho, ho.2, if_pos (by omega)]
  · rw [if_neg ho]
    by_cases c : w = 2 ∧ 0 ≤ o ∧ o < j ∧ T 0 o = 4 ∧ ps < T 2 o
    · rw [if_pos c, if_pos (by omega)]
    · rw [if_neg c, if_neg (by omega)]
theorem mvP_no {T : Mem} {g p was y j : Int} (h : ¬ (T 9 j = g ∧ j ≠ p)) : mvP T g p was y (j + 1) = mvP T g p was y j := by
  funext w o
  unfold mvP
  by_cases ho : o = j
  · subst ho; rw [if_neg (by omega), if_neg (by omega)]
  · by_cases c : w = 10 ∧ 0 ≤ o ∧ o < j ∧ T 9 o = g ∧ o ≠ p
    · rw [if_pos c, if_pos (by omega)]
    · rw [if_neg c, if_neg (by omega)]
theorem mvP_yes {T : Mem} {g p was y j v : Int} (hj : 0 ≤ j) (h : T 9 j = g ∧ j ≠ p) (hv : v = mvI T was y j) : up (mvP T g p was y j) 10 j v = mvP T g p was y (j + 1) := by
  subst hv
  funext w o
  unfold up mvP
  try dsimp only
  by_cases ho : w = 10 ∧ o = j
  · rw [if_pos ho, ho.2, if_pos (by omega)]
  · rw [if_neg ho]
    by_cases c : w = 10 ∧ 0 ≤ o ∧ o < j ∧ T 9 o = g ∧ o ≠ p
    · rw [if_pos c, if_pos (by omega)]
    · rw [if_neg c, if_neg (by omega)]
theorem rzP_TB {N : Int} {T : Mem} (h : TB N T) (ps j : Int) : TB (N + 1) (rzP T ps j) := by
  refine ⟨fun w i hi => ?_, fun i hi => ?_, fun i hi => ?_⟩
  · unfold rzP
    split
    · rename_i z
      have := h.1 2 i (by rw [← z.1]; exact hi)
      omega
    · have := h.1 w i hi
      omega
  · rw [rzP_k _ _ _ _ (by decide)]; exact h.2.1 i hi
  · rw [rzP_k _ _ _ _ (by decide)]; exact h.2.2 i hi
section M5
variable {G : Gx} {l : Launch} {S : Sh} {n : Nat} {mu T : Mem} {la : Lam} {r : Nat}
set_option maxRecDepth 20000 in
theorem ggX9_addPane_X9_hold : GoodIn wsX9_addPane wsX9_hold := goodIn_r _ [5, 6, 7, 8, 9, 4, 10, 38, 39, 40, 41, 42, 43, 44, 45, 46, 47, 48, 49, 50, 51, 52, 53, 54, 55, 56, 57, 58, 59, 60, 61] (by decide +kernel) (by decide +kernel)
set_option maxRecDepth 20000 in
theorem gX9_addPane_X9_hold : GoodIn wsX9_addPane (wsV RX9 194 RX9 yX9_hold wsX9_hold) := goodIn_app (goodIn_of _ (by decide +kernel)) ggX9_addPane_X9_hold
set_option maxRecDepth 20000 in
theorem ggX9_addPane_X9_adds : GoodIn wsX9_addPane wsX9_adds := goodIn_r _ [14, 7, 15, 16, 17, 4, 18, 38, 39, 40, 41, 42, 43, 44, 45, 46, 47, 48, 49, 50, 51, 52, 53, 54, 55, 56, 57, 58, 59, 60, 61] (by decide +kernel) (by decide +kernel)
set_option maxRecDepth 20000 in
theorem gX9_addPane_X9_adds : GoodIn wsX9_addPane (wsV RX9 197 RX9 yX9_adds wsX9_adds) := goodIn_app (goodIn_of _ (by decide +kernel)) ggX9_addPane_X9_adds
set_option maxRecDepth 20000 in
theorem ggX9_addPane_X9_done : GoodIn wsX9_addPane wsX9_done := goodIn_r _ [22, 15, 23, 24, 25, 4, 26, 27, 28, 29, 30, 31, 32, 33, 6, 34, 35, 36, 37, 38, 39, 40, 41, 42, 43, 44, 45, 46, 47, 48, 49, 50, 51, 52, 53, 54, 55, 56, 57, 58, 59, 60, 61] (by decide +kernel) (by decide +kernel)
set_option maxRecDepth 20000 in
theorem gX9_addPane_X9_done : GoodIn wsX9_addPane (wsV RX9 200 RX9 yX9_done wsX9_done) := goodIn_app (goodIn_of _ (by decide +kernel)) ggX9_addPane_X9_done
theorem dX9_addPane_0 : decode cX9_addPane 0 = .ok (.aload_n 0, 1) := by decide +kernel
theorem dX9_addPane_1 : decode cX9_addPane 1 = .ok (.invokevirtual 194, 3) := by decide +kernel
theorem dX9_addPane_4 : decode cX9_addPane 4 = .ok (.aload_n 0, 1) := by decide +kernel
theorem dX9_addPane_5 : decode cX9_addPane 5 = .ok (.aload_n 0, 1) := by decide +kernel
theorem dX9_addPane_6 : decode cX9_addPane 6 = .ok (.iload_n 1, 1) := by decide +kernel
theorem dX9_addPane_7 : decode cX9_addPane 7 = .ok (.iload_n 2, 1) := by decide +kernel
theorem dX9_addPane_8 : decode cX9_addPane 8 = .ok (.invokevirtual 197, 3) := by decide +kernel
theorem dX9_addPane_11 : decode cX9_addPane 11 = .ok (.invokevirtual 200, 3) := by decide +kernel
theorem dX9_addPane_14 : decode cX9_addPane 14 = .ok (.ireturn, 1) := by decide +kernel
theorem p_addPane (hG : GP G) (hM : MoS S r) (hW : MWo mu r) {x y : Int} (hx : -2147483648 ≤ x ∧ x ≤ 2147483647) (hy : -2147483648 ≤ y ∧ y ≤ 2147483647) : Ct G l yX9_addPane wsX9_addPane 3 0 0 [.ref r, .int (I32 x), .int (I32 y)] S n mu la (Dt (some (.int (I32 (dnA (if adF (mu (r + 1) 2) x y = 0 then adM (hdM mu r) r (trT mu r) x y else ptT (hdM mu r) r (trT mu r)) r (adF (mu (r + 1) 2) x y))))) S n (dnM (if adF (mu (r + 1) 2) x y = 0 then adM (hdM mu r) r (trT mu r) x y else ptT (hdM mu r) r (trT mu r)) r (adF (mu (r + 1) 2) x y)) la) := by
  have o9 := hM.1
  obtain ⟨w1, w2, w3, w4, w5⟩ := hW
  have e2 : hdM mu r (r + 1) 2 = mu (r + 1) 2 := hdM_1 mu r 2
  have hF : -2147483648 ≤ adF (mu (r + 1) 2) x y ∧ adF (mu (r + 1) 2) x y ≤ 2147483647 := by unfold adF; (repeat' split) <;> omega
  have hq : 0 ≤ (if adF (mu (r + 1) 2) x y = 0 then adM (hdM mu r) r (trT mu r) x y else ptT (hdM mu r) r (trT mu r)) r 4 ∧ (if adF (mu (r + 1) 2) x y = 0 then adM (hdM mu r) r (trT mu r) x y else ptT (hdM mu r) r (trT mu r)) r 4 ≤ 4 := by
    split
    · unfold adM adB; rw [pt_r, up_a _ _ _ _ (by omega), up_a _ _ _ _ (by omega), up_a _ _ _ _ (by omega), up_i _ _ _ (by omega), hdM_r]; exact w4
    · rw [pt_r, hdM_r]; exact w4
  refine Ct.ofV (cc := cX9_addPane) (nL := 3) (ret := (some .int)) [some (.ref r), some (.int (I32 x)), some (.int (I32 y))] hG (by decide) rfl (Nat.le_of_ble_eq_true rfl) rfl ?_
  rintro X rfl rfl C hcl hsl E
  refine V_aload_n C dX9_addPane_0 rfl ?_
  refine V_callVD (nA := 0) C dX9_addPane_1 (m_hold C.gp hM) gX9_addPane_X9_hold rfl o9 rfl (by decide +kernel) rfl (by decide) (by decide) (Nat.le_of_ble_eq_true rfl) ⟨by omega, by omega⟩ rfl ?_
  rw [show cpF mu (r + 1) (r + 3) 1639 = ptT (hdM mu r) r (trT mu r) from hdM_pt mu r]
  refine V_aload_n C dX9_addPane_4 rfl ?_
  refine V_aload_n C dX9_addPane_5 rfl ?_
  refine V_iload_n C dX9_addPane_6 rfl ?_
  refine V_iload_n C dX9_addPane_7 rfl ?_
  have h9 := m_adds (l := xL X) (n := n) (la := la) (mu := hdM mu r) (T := trT mu r) C.gp hM (by rw [e2]; exact w3) hx hy
  rw [e2] at h9
  refine V_callVD (nA := 2) C dX9_addPane_8 h9 gX9_addPane_X9_adds rfl o9 rfl (by decide +kernel) rfl (by decide) (by decide) (Nat.le_of_ble_eq_true rfl) ⟨by omega, by omega⟩ rfl ?_
  refine V_callVD (nA := 1) C dX9_addPane_11 (m_done C.gp hM hq hF) gX9_addPane_X9_done rfl o9 rfl (by decide +kernel) rfl (by decide) (by decide) (Nat.le_of_ble_eq_true rfl) ⟨by omega, by omega⟩ rfl ?_
  refine V_ireturn C E dX9_addPane_14 (by omega) (by omega) ?_
  exact Dt_rfl
set_option maxRecDepth 20000 in
theorem ggX9_dock_X9_hold : GoodIn wsX9_dock wsX9_hold := goodIn_r _ [5, 6, 7, 8, 9, 4, 10, 113, 114, 115, 116, 117, 118, 119, 120, 121, 122, 123, 124, 125, 126, 127, 128, 129, 130, 131, 132, 133, 134, 135, 136] (by decide +kernel) (by decide +kernel)
set_option maxRecDepth 20000 in
theorem gX9_dock_X9_hold : GoodIn wsX9_dock (wsV RX9 194 RX9 yX9_hold wsX9_hold) := goodIn_app (goodIn_of _ (by decide +kernel)) ggX9_dock_X9_hold
set_option maxRecDepth 20000 in
theorem ggX9_dock_X9_docksAt : GoodIn wsX9_dock wsX9_docksAt := goodIn_r _ [14, 15, 16, 17, 4, 18, 19, 20, 21, 22, 7, 23, 24, 25, 26, 27, 28, 29, 30, 31, 32, 33, 34, 35, 36, 37, 38, 39, 40, 41, 42, 43, 44, 45, 46, 47, 48, 49, 50, 51, 52, 53, 54, 55, 56, 57, 58, 59, 60, 61, 62, 63, 64, 65, 66, 67, 68, 69, 70, 71, 72, 73, 74, 75, 76, 77, 78, 79, 80, 81, 82, 83, 84, 85, 86, 87, 88, 89, 90, 91, 92, 93, 113, 114, 115, 116, 117, 118, 119, 120, 121, 122, 123, 124, 125, 126, 127, 128, 129, 130, 131, 132, 133, 134, 135, 136] (by decide +kernel) (by decide +kernel)
set_option maxRecDepth 20000 in
theorem gX9_dock_X9_docksAt : GoodIn wsX9_dock (wsV RX9 203 RX9 yX9_docksAt wsX9_docksAt) := goodIn_app (goodIn_of _ (by decide +kernel)) ggX9_dock_X9_docksAt
set_option maxRecDepth 20000 in
theorem ggX9_dock_X9_done : GoodIn wsX9_dock wsX9_done := goodIn_r _ [97, 42, 98, 99, 100, 4, 101, 102, 103, 104, 105, 106, 107, 108, 6, 109, 110, 111, 112, 113, 114, 115, 116, 117, 118, 119, 120, 121, 122, 123, 124, 125, 126, 127, 128, 129, 130, 131, 132, 133, 134, 135, 136] (by decide +kernel) (by decide +kernel)
set_option maxRecDepth 20000 in
theorem gX9_dock_X9_done : GoodIn wsX9_dock (wsV RX9 200 RX9 yX9_done wsX9_done) := goodIn_app (goodIn_of _ (by decide +kernel)) ggX9_dock_X9_done
theorem dX9_dock_0 : decode cX9_dock 0 = .ok (.aload_n 0, 1) := by decide +kernel
theorem dX9_dock_1 : decode cX9_dock 1 = .ok (.invokevirtual 194, 3) := by decide +kernel
theorem dX9_dock_4 : decode cX9_dock 4 = .ok (.aload_n 0, 1) := by decide +kernel
theorem dX9_dock_5 : decode cX9_dock 5 = .ok (.aload_n 0, 1) := by decide +kernel
theorem dX9_dock_6 : decode cX9_dock 6 = .ok (.iload_n 1, 1) := by decide +kernel
theorem dX9_dock_7 : decode cX9_dock 7 = .ok (.iload_n 2, 1) := by decide +kernel
theorem dX9_dock_8 : decode cX9_dock 8 = .ok (.iload_n 3, 1) := by decide +kernel
theorem dX9_dock_9 : decode cX9_dock 9 = .ok (.invokevirtual 203, 3) := by decide +kernel
theorem dX9_dock_12 : decode cX9_dock 12 = .ok (.invokevirtual 200, 3) := by decide +kernel
theorem dX9_dock_15 : decode cX9_dock 15 = .ok (.ireturn, 1) := by decide +kernel
theorem p_dock (hG : GP G) (hM : MoS S r) (hW : MWo mu r) {x y z : Int} (hx : -2147483648 ≤ x ∧ x ≤ 2147483647) (hy : -2147483648 ≤ y ∧ y ≤ 2147483647) (hz : -2147483648 ≤ z ∧ z ≤ 2147483647) (ho : mcF (trT mu r) (mu (r + 1) 2) x y z = 0 → okD (trT mu r) (mu (r + 1) 2) x y z) : Ct G l yX9_dock wsX9_dock 6 0 0 [.ref r, .int (I32 x), .int (I32 y), .int (I32 z)] S n mu la (Dt (some (.int (I32 (dnA (if mcF (trT mu r) (mu (r + 1) 2) x y z = 0 then ptT (up (hdM mu r) r 19 (dkA (trT mu r) (mu (r + 1) 2) x y z)) r (dkT (trT mu r) (mu (r + 1) 2) x y z) else ptT (hdM mu r) r (trT mu r)) r (mcF (trT mu r) (mu (r + 1) 2) x y z))))) S n (dnM (if mcF (trT mu r) (mu (r + 1) 2) x y z = 0 then ptT (up (hdM mu r) r 19 (dkA (trT mu r) (mu (r + 1) 2) x y z)) r (dkT (trT mu r) (mu (r + 1) 2) x y z) else ptT (hdM mu r) r (trT mu r)) r (mcF (trT mu r) (mu (r + 1) 2) x y z)) la) := by
  have o9 := hM.1
  obtain ⟨w1, w2, w3, w4, w5⟩ := hW
  have e2 : hdM mu r (r + 1) 2 = mu (r + 1) 2 := hdM_1 mu r 2
  have hF : -2147483648 ≤ mcF (trT mu r) (mu (r + 1) 2) x y z ∧ mcF (trT mu r) (mu (r + 1) 2) x y z ≤ 2147483647 := by unfold mcF; (repeat' split) <;> omega
  have hq : 0 ≤ (if mcF (trT mu r) (mu (r + 1) 2) x y z = 0 then ptT (up (hdM mu r) r 19 (dkA (trT mu r) (mu (r + 1) 2) x y z)) r (dkT (trT mu r) (mu (r + 1) 2) x y z) else ptT (hdM mu r) r (trT mu r)) r 4 ∧ (if mcF (trT mu r) (mu (r + 1) 2) x y z = 0 then ptT (up (hdM mu r) r 19 (dkA (trT mu r) (mu (r + 1) 2) x y z)) r (dkT (trT mu r) (mu (r + 1) 2) x y z) else ptT (hdM mu r) r (trT mu r)) r 4 ≤ 4 := by
    split
    · rw [pt_r, up_i _ _ _ (by omega), hdM_r]; exact w4
    · rw [pt_r, hdM_r]; exact w4
  refine Ct.ofV (cc := cX9_dock) (nL := 4) (ret := (some .int)) [some (.ref r), some (.int (I32 x)), some (.int (I32 y)), some (.int (I32 z))] hG (by decide) rfl (Nat.le_of_ble_eq_true rfl) rfl ?_
  rintro X rfl rfl C hcl hsl E
  refine V_aload_n C dX9_dock_0 rfl ?_
  refine V_callVD (nA := 0) C dX9_dock_1 (m_hold C.gp hM) gX9_dock_X9_hold rfl o9 rfl (by decide +kernel) rfl (by decide) (by decide) (Nat.le_of_ble_eq_true rfl) ⟨by omega, by omega⟩ rfl ?_
  rw [show cpF mu (r + 1) (r + 3) 1639 = ptT (hdM mu r) r (trT mu r) from hdM_pt mu r]
  refine V_aload_n C dX9_dock_4 rfl ?_
  refine V_aload_n C dX9_dock_5 rfl ?_
  refine V_iload_n C dX9_dock_6 rfl ?_
  refine V_iload_n C dX9_dock_7 rfl ?_
  refine V_iload_n C dX9_dock_8 rfl ?_
  have h9 := m_docksAt (l := xL X) (n := n) (la := la) (mu := hdM mu r) (T := trT mu r) C.gp hM w2 (by omega) (by rw [e2]; exact w3) hx hy hz (by rw [e2]; exact ho)
  rw [e2] at h9
  refine V_callVD (nA := 3) C dX9_dock_9 h9 gX9_dock_X9_docksAt rfl o9 rfl (by decide +kernel) rfl (by decide) (by decide) (Nat.le_of_ble_eq_true rfl) ⟨by omega, by omega⟩ rfl ?_
  refine V_callVD (nA := 1) C dX9_dock_12 (m_done C.gp hM hq hF) gX9_dock_X9_done rfl o9 rfl (by decide +kernel) rfl (by decide) (by decide) (Nat.le_of_ble_eq_true rfl) ⟨by omega, by omega⟩ rfl ?_
  refine V_ireturn C E dX9_dock_15 (by omega) (by omega) ?_
  exact Dt_rfl
set_option maxRecDepth 20000 in
theorem ggX9_dockAtEdge_X9_hold : GoodIn wsX9_dockAtEdge wsX9_hold := goodIn_r _ [5, 6, 7, 8, 9, 4, 10, 109, 110, 111, 112, 113, 114, 115, 116, 117, 118, 119, 120, 121, 122, 123, 124, 125, 126, 127, 128, 129, 130, 131, 132] (by decide +kernel) (by decide +kernel)
set_option maxRecDepth 20000 in
theorem gX9_dockAtEdge_X9_hold : GoodIn wsX9_dockAtEdge (wsV RX9 194 RX9 yX9_hold wsX9_hold) := goodIn_app (goodIn_of _ (by decide +kernel)) ggX9_dockAtEdge_X9_hold
set_option maxRecDepth 20000 in
theorem ggX9_dockAtEdge_X9_edges : GoodIn wsX9_dockAtEdge wsX9_edges := goodIn_r _ [14, 15, 16, 17, 18, 4, 19, 7, 20, 21, 22, 23, 24, 25, 26, 27, 28, 29, 30, 31, 32, 33, 34, 35, 36, 37, 38, 39, 40, 41, 42, 43, 44, 45, 46, 47, 48, 49, 50, 51, 52, 53, 54, 55, 56, 57, 58, 59, 60, 61, 62, 63, 64, 65, 66, 67, 68, 69, 70, 71, 72, 73, 74, 75, 76, 77, 78, 79, 80, 81, 82, 83, 84, 85, 86, 87, 88, 89, 109, 110, 111, 112, 113, 114, 115, 116, 117, 118, 119, 120, 121, 122, 123, 124, 125, 126, 127, 128, 129, 130, 131, 132] (by decide +kernel) (by decide +kernel)
set_option maxRecDepth 20000 in
theorem gX9_dockAtEdge_X9_edges : GoodIn wsX9_dockAtEdge (wsV RX9 206 RX9 yX9_edges wsX9_edges) := goodIn_app (goodIn_of _ (by decide +kernel)) ggX9_dockAtEdge_X9_edges
set_option maxRecDepth 20000 in
theorem ggX9_dockAtEdge_X9_done : GoodIn wsX9_dockAtEdge wsX9_done := goodIn_r _ [93, 15, 94, 95, 96, 4, 97, 98, 99, 100, 101, 102, 103, 104, 6, 105, 106, 107, 108, 109, 110, 111, 112, 113, 114, 115, 116, 117, 118, 119, 120, 121, 122, 123, 124, 125, 126, 127, 128, 129, 130, 131, 132] (by decide +kernel) (by decide +kernel)
set_option maxRecDepth 20000 in
theorem gX9_dockAtEdge_X9_done : GoodIn wsX9_dockAtEdge (wsV RX9 200 RX9 yX9_done wsX9_done) := goodIn_app (goodIn_of _ (by decide +kernel)) ggX9_dockAtEdge_X9_done
theorem dX9_dockAtEdge_0 : decode cX9_dockAtEdge 0 = .ok (.aload_n 0, 1) := by decide +kernel
theorem dX9_dockAtEdge_1 : decode cX9_dockAtEdge 1 = .ok (.invokevirtual 194, 3) := by decide +kernel
theorem dX9_dockAtEdge_4 : decode cX9_dockAtEdge 4 = .ok (.aload_n 0, 1) := by decide +kernel
theorem dX9_dockAtEdge_5 : decode cX9_dockAtEdge 5 = .ok (.aload_n 0, 1) := by decide +kernel
theorem dX9_dockAtEdge_6 : decode cX9_dockAtEdge 6 = .ok (.iload_n 1, 1) := by decide +kernel
theorem dX9_dockAtEdge_7 : decode cX9_dockAtEdge 7 = .ok (.iload_n 2, 1) := by decide +kernel
theorem dX9_dockAtEdge_8 : decode cX9_dockAtEdge 8 = .ok (.invokevirtual 206, 3) := by decide +kernel
theorem dX9_dockAtEdge_11 : decode cX9_dockAtEdge 11 = .ok (.invokevirtual 200, 3) := by decide +kernel
theorem dX9_dockAtEdge_14 : decode cX9_dockAtEdge 14 = .ok (.ireturn, 1) := by decide +kernel
theorem p_dockAtEdge (hG : GP G) (hM : MoS S r) (hW : MWo mu r) {x z : Int} (hx : -2147483648 ≤ x ∧ x ≤ 2147483647) (hz : -2147483648 ≤ z ∧ z ≤ 2147483647) (ho : egF (mu (r + 1) 2) x z = 0 → okE (trT mu r) (mu (r + 1) 2) x z) : Ct G l yX9_dockAtEdge wsX9_dockAtEdge 5 0 0 [.ref r, .int (I32 x), .int (I32 z)] S n mu la (Dt (some (.int (I32 (dnA (if egF (mu (r + 1) 2) x z = 0 then ptT (up (hdM mu r) r 19 (ctT (egC (trT mu r) (mu (r + 1) 2) x z) 1)) r (egC (trT mu r) (mu (r + 1) 2) x z) else ptT (hdM mu r) r (trT mu r)) r (egF (mu (r + 1) 2) x z))))) S n (dnM (if egF (mu (r + 1) 2) x z = 0 then ptT (up (hdM mu r) r 19 (ctT (egC (trT mu r) (mu (r + 1) 2) x z) 1)) r (egC (trT mu r) (mu (r + 1) 2) x z) else ptT (hdM mu r) r (trT mu r)) r (egF (mu (r + 1) 2) x z)) la) := by
  have o9 := hM.1
  obtain ⟨w1, w2, w3, w4, w5⟩ := hW
  have e2 : hdM mu r (r + 1) 2 = mu (r + 1) 2 := hdM_1 mu r 2
  have hF : -2147483648 ≤ egF (mu (r + 1) 2) x z ∧ egF (mu (r + 1) 2) x z ≤ 2147483647 := by unfold egF; (repeat' split) <;> omega
  have hq : 0 ≤ (if egF (mu (r + 1) 2) x z = 0 then ptT (up (hdM mu r) r 19 (ctT (egC (trT mu r) (mu (r + 1) 2) x z) 1)) r (egC (trT mu r) (mu (r + 1) 2) x z) else ptT (hdM mu r) r (trT mu r)) r 4 ∧ (if egF (mu (r + 1) 2) x z = 0 then ptT (up (hdM mu r) r 19 (ctT (egC (trT mu r) (mu (r + 1) 2) x z) 1)) r (egC (trT mu r) (mu (r + 1) 2) x z) else ptT (hdM mu r) r (trT mu r)) r 4 ≤ 4 := by
    split
    · rw [pt_r, up_i _ _ _ (by omega), hdM_r]; exact w4
    · rw [pt_r, hdM_r]; exact w4
  refine Ct.ofV (cc := cX9_dockAtEdge) (nL := 3) (ret := (some .int)) [some (.ref r), some (.int (I32 x)), some (.int (I32 z))] hG (by decide) rfl (Nat.le_of_ble_eq_true rfl) rfl ?_
  rintro X rfl rfl C hcl hsl E
  refine V_aload_n C dX9_dockAtEdge_0 rfl ?_
  refine V_callVD (nA := 0) C dX9_dockAtEdge_1 (m_hold C.gp hM) gX9_dockAtEdge_X9_hold rfl o9 rfl (by decide +kernel) rfl (by decide) (by decide) (Nat.le_of_ble_eq_true rfl) ⟨by omega, by omega⟩ rfl ?_
  rw [show cpF mu (r + 1) (r + 3) 1639 = ptT (hdM mu r) r (trT mu r) from hdM_pt mu r]
  refine V_aload_n C dX9_dockAtEdge_4 rfl ?_
  refine V_aload_n C dX9_dockAtEdge_5 rfl ?_
  refine V_iload_n C dX9_dockAtEdge_6 rfl ?_
  refine V_iload_n C dX9_dockAtEdge_7 rfl ?_
  have h9 := m_edges (l := xL X) (n := n) (la := la) (mu := hdM mu r) (T := trT mu r) C.gp hM w2 (by omega) (by rw [e2]; exact w3) hx hz (by rw [e2]; exact ho)
  rw [e2] at h9
  refine V_callVD (nA := 2) C dX9_dockAtEdge_8 h9 gX9_dockAtEdge_X9_edges rfl o9 rfl (by decide +kernel) rfl (by decide) (by decide) (Nat.le_of_ble_eq_true rfl) ⟨by omega, by omega⟩ rfl ?_
  refine V_callVD (nA := 1) C dX9_dockAtEdge_11 (m_done C.gp hM hq hF) gX9_dockAtEdge_X9_done rfl o9 rfl (by decide +kernel) rfl (by decide) (by decide) (Nat.le_of_ble_eq_true rfl) ⟨by omega, by omega⟩ rfl ?_
  refine V_ireturn C E dX9_dockAtEdge_14 (by omega) (by omega) ?_
  exact Dt_rfl
set_option maxRecDepth 20000 in
theorem ggX9_floatAt_X9_hold : GoodIn wsX9_floatAt wsX9_hold := goodIn_r _ [5, 6, 7, 8, 9, 4, 10, 94, 95, 96, 97, 98, 99, 100, 101, 102, 103, 104, 105, 106, 107, 108, 109, 110, 111, 112, 113, 114, 115, 116, 117] (by decide +kernel) (by decide +kernel)
set_option maxRecDepth 20000 in
theorem gX9_floatAt_X9_hold : GoodIn wsX9_floatAt (wsV RX9 194 RX9 yX9_hold wsX9_hold) := goodIn_app (goodIn_of _ (by decide +kernel)) ggX9_floatAt_X9_hold
set_option maxRecDepth 20000 in
theorem ggX9_floatAt_X9_floats : GoodIn wsX9_floatAt wsX9_floats := goodIn_r _ [14, 15, 16, 17, 18, 4, 19, 7, 20, 21, 22, 23, 24, 25, 26, 27, 28, 29, 30, 31, 32, 33, 34, 35, 36, 37, 38, 39, 40, 41, 42, 43, 44, 45, 46, 47, 48, 49, 50, 51, 52, 53, 54, 55, 56, 57, 58, 59, 60, 61, 62, 63, 64, 65, 66, 67, 68, 69, 70, 71, 72, 73, 74, 94, 95, 96, 97, 98, 99, 100, 101, 102, 103, 104, 105, 106, 107, 108, 109, 110, 111, 112, 113, 114, 115, 116, 117] (by decide +kernel) (by decide +kernel)
set_option maxRecDepth 20000 in
theorem gX9_floatAt_X9_floats : GoodIn wsX9_floatAt (wsV RX9 209 RX9 yX9_floats wsX9_floats) := goodIn_app (goodIn_of _ (by decide +kernel)) ggX9_floatAt_X9_floats
set_option maxRecDepth 20000 in
theorem ggX9_floatAt_X9_done : GoodIn wsX9_floatAt wsX9_done := goodIn_r _ [78, 15, 79, 80, 81, 4, 82, 83, 84, 85, 86, 87, 88, 89, 6, 90, 91, 92, 93, 94, 95, 96, 97, 98, 99, 100, 101, 102, 103, 104, 105, 106, 107, 108, 109, 110, 111, 112, 113, 114, 115, 116, 117] (by decide +kernel) (by decide +kernel)
set_option maxRecDepth 20000 in
theorem gX9_floatAt_X9_done : GoodIn wsX9_floatAt (wsV RX9 200 RX9 yX9_done wsX9_done) := goodIn_app (goodIn_of _ (by decide +kernel)) ggX9_floatAt_X9_done
theorem dX9_floatAt_0 : decode cX9_floatAt 0 = .ok (.aload_n 0, 1) := by decide +kernel
theorem dX9_floatAt_1 : decode cX9_floatAt 1 = .ok (.invokevirtual 194, 3) := by decide +kernel
theorem dX9_floatAt_4 : decode cX9_floatAt 4 = .ok (.aload_n 0, 1) := by decide +kernel
theorem dX9_floatAt_5 : decode cX9_floatAt 5 = .ok (.aload_n 0, 1) := by decide +kernel
theorem dX9_floatAt_6 : decode cX9_floatAt 6 = .ok (.iload_n 1, 1) := by decide +kernel
theorem dX9_floatAt_7 : decode cX9_floatAt 7 = .ok (.iload_n 2, 1) := by decide +kernel
theorem dX9_floatAt_8 : decode cX9_floatAt 8 = .ok (.iload_n 3, 1) := by decide +kernel
theorem dX9_floatAt_9 : decode cX9_floatAt 9 = .ok (.iload 4, 2) := by decide +kernel
theorem dX9_floatAt_11 : decode cX9_floatAt 11 = .ok (.iload 5, 2) := by decide +kernel
theorem dX9_floatAt_13 : decode cX9_floatAt 13 = .ok (.invokevirtual 209, 3) := by decide +kernel
theorem dX9_floatAt_16 : decode cX9_floatAt 16 = .ok (.invokevirtual 200, 3) := by decide +kernel
theorem dX9_floatAt_19 : decode cX9_floatAt 19 = .ok (.ireturn, 1) := by decide +kernel
theorem p_floatAt (hG : GP G) (hM : MoS S r) (hW : MWo mu r) {x y z w v : Int} (hx : -2147483648 ≤ x ∧ x ≤ 2147483647) (hy : -2147483648 ≤ y ∧ y ≤ 2147483647) (hz : -2147483648 ≤ z ∧ z ≤ 2147483647) (hw : -2147483648 ≤ w ∧ w ≤ 2147483647) (hv : -2147483648 ≤ v ∧ v ≤ 2147483647) (ho : flF9 (mu (r + 1) 2) x y z w v = 0 → okF (trT mu r) (mu (r + 1) 2) x) : Ct G l yX9_floatAt wsX9_floatAt 5 0 0 [.ref r, .int (I32 x), .int (I32 y), .int (I32 z), .int (I32 w), .int (I32 v)] S n mu la (Dt (some (.int (I32 (dnA (if flF9 (mu (r + 1) 2) x y z w v = 0 then ptT (up (hdM mu r) r 19 (ctT (tkT (trT mu r) (mu (r + 1) 2) x) 4 + 1)) r (flT (trT mu r) (mu (r + 1) 2) x y z w v) else ptT (hdM mu r) r (trT mu r)) r (flF9 (mu (r + 1) 2) x y z w v))))) S n (dnM (if flF9 (mu (r + 1) 2) x y z w v = 0 then ptT (up (hdM mu r) r 19 (ctT (tkT (trT mu r) (mu (r + 1) 2) x) 4 + 1)) r (flT (trT mu r) (mu (r + 1) 2) x y z w v) else ptT (hdM mu r) r (trT mu r)) r (flF9 (mu (r + 1) 2) x y z w v)) la) := by
  have o9 := hM.1
  obtain ⟨w1, w2, w3, w4, w5⟩ := hW
  have e2 : hdM mu r (r + 1) 2 = mu (r + 1) 2 := hdM_1 mu r 2
  have hF : -2147483648 ≤ flF9 (mu (r + 1) 2) x y z w v ∧ flF9 (mu (r + 1) 2) x y z w v ≤ 2147483647 := by unfold flF9; (repeat' split) <;> omega
  have hq : 0 ≤ (if flF9 (mu (r + 1) 2) x y z w v = 0 then ptT (up (hdM mu r) r 19 (ctT (tkT (trT mu r) (mu (r + 1) 2) x) 4 + 1)) r (flT (trT mu r) (mu (r + 1) 2) x y z w v) else ptT (hdM mu r) r (trT mu r)) r 4 ∧ (if flF9 (mu (r + 1) 2) x y z w v = 0 then ptT (up (hdM mu r) r 19 (ctT (tkT (trT mu r) (mu (r + 1) 2) x) 4 + 1)) r (flT (trT mu r) (mu (r + 1) 2) x y z w v) else ptT (hdM mu r) r (trT mu r)) r 4 ≤ 4 := by
    split
    · rw [pt_r, up_i _ _ _ (by omega), hdM_r]; exact w4
    · rw [pt_r, hdM_r]; exact w4
  refine Ct.ofV (cc := cX9_floatAt) (nL := 6) (ret := (some .int)) [some (.ref r), some (.int (I32 x)), some (.int (I32 y)), some (.int (I32 z)), some (.int (I32 w)), some (.int (I32 v))] hG (by decide) rfl (Nat.le_of_ble_eq_true rfl) rfl ?_
  rintro X rfl rfl C hcl hsl E
  refine V_aload_n C dX9_floatAt_0 rfl ?_
  refine V_callVD (nA := 0) C dX9_floatAt_1 (m_hold C.gp hM) gX9_floatAt_X9_hold rfl o9 rfl (by decide +kernel) rfl (by decide) (by decide) (Nat.le_of_ble_eq_true rfl) ⟨by omega, by omega⟩ rfl ?_
  rw [show cpF mu (r + 1) (r + 3) 1639 = ptT (hdM mu r) r (trT mu r) from hdM_pt mu r]
  refine V_aload_n C dX9_floatAt_4 rfl ?_
  refine V_aload_n C dX9_floatAt_5 rfl ?_
  refine V_iload_n C dX9_floatAt_6 rfl ?_
  refine V_iload_n C dX9_floatAt_7 rfl ?_
  refine V_iload_n C dX9_floatAt_8 rfl ?_
  refine V_iload C dX9_floatAt_9 rfl ?_
  refine V_iload C dX9_floatAt_11 rfl ?_
  have h9 := m_floats (l := xL X) (n := n) (la := la) (mu := hdM mu r) (T := trT mu r) C.gp hM w2 (by omega) (by rw [e2]; exact w3) hx hy hz hw hv (by rw [e2]; exact ho)
  rw [e2] at h9
  refine V_callVD (nA := 5) C dX9_floatAt_13 h9 gX9_floatAt_X9_floats rfl o9 rfl (by decide +kernel) rfl (by decide) (by decide) (Nat.le_of_ble_eq_true rfl) ⟨by omega, by omega⟩ rfl ?_
  refine V_callVD (nA := 1) C dX9_floatAt_16 (m_done C.gp hM hq hF) gX9_floatAt_X9_done rfl o9 rfl (by decide +kernel) rfl (by decide) (by decide) (Nat.le_of_ble_eq_true rfl) ⟨by omega, by omega⟩ rfl ?_
  refine V_ireturn C E dX9_floatAt_19 (by omega) (by omega) ?_
  exact Dt_rfl
set_option maxRecDepth 20000 in
theorem ggX9_close_X9_hold : GoodIn wsX9_close wsX9_hold := goodIn_r _ [5, 6, 7, 8, 9, 4, 10, 86, 87, 88, 89, 90, 91, 92, 93, 94, 95, 96, 97, 98, 99, 100, 101, 102, 103, 104, 105, 106, 107, 108, 109] (by decide +kernel) (by decide +kernel)
set_option maxRecDepth 20000 in
theorem gX9_close_X9_hold : GoodIn wsX9_close (wsV RX9 194 RX9 yX9_hold wsX9_hold) := goodIn_app (goodIn_of _ (by decide +kernel)) ggX9_close_X9_hold
set_option maxRecDepth 20000 in
theorem ggX9_close_X9_closes : GoodIn wsX9_close wsX9_closes := goodIn_r _ [14, 15, 16, 17, 18, 4, 19, 7, 20, 21, 22, 23, 24, 25, 26, 27, 28, 29, 30, 31, 32, 33, 34, 35, 36, 37, 38, 39, 40, 41, 42, 43, 44, 45, 46, 47, 48, 49, 50, 51, 52, 53, 54, 55, 56, 57, 58, 59, 60, 61, 62, 63, 64, 65, 66, 86, 87, 88, 89, 90, 91, 92, 93, 94, 95, 96, 97, 98, 99, 100, 101, 102, 103, 104, 105, 106, 107, 108, 109] (by decide +kernel) (by decide +kernel)
set_option maxRecDepth 20000 in
theorem gX9_close_X9_closes : GoodIn wsX9_close (wsV RX9 213 RX9 yX9_closes wsX9_closes) := goodIn_app (goodIn_of _ (by decide +kernel)) ggX9_close_X9_closes
set_option maxRecDepth 20000 in
theorem ggX9_close_X9_done : GoodIn wsX9_close wsX9_done := goodIn_r _ [70, 15, 71, 72, 73, 4, 74, 75, 76, 77, 78, 79, 80, 81, 6, 82, 83, 84, 85, 86, 87, 88, 89, 90, 91, 92, 93, 94, 95, 96, 97, 98, 99, 100, 101, 102, 103, 104, 105, 106, 107, 108, 109] (by decide +kernel) (by decide +kernel)
set_option maxRecDepth 20000 in
theorem gX9_close_X9_done : GoodIn wsX9_close (wsV RX9 200 RX9 yX9_done wsX9_done) := goodIn_app (goodIn_of _ (by decide +kernel)) ggX9_close_X9_done
theorem dX9_close_0 : decode cX9_close 0 = .ok (.aload_n 0, 1) := by decide +kernel
theorem dX9_close_1 : decode cX9_close 1 = .ok (.invokevirtual 194, 3) := by decide +kernel
theorem dX9_close_4 : decode cX9_close 4 = .ok (.aload_n 0, 1) := by decide +kernel
theorem dX9_close_5 : decode cX9_close 5 = .ok (.aload_n 0, 1) := by decide +kernel
theorem dX9_close_6 : decode cX9_close 6 = .ok (.iload_n 1, 1) := by decide +kernel
theorem dX9_close_7 : decode cX9_close 7 = .ok (.invokevirtual 213, 3) := by decide +kernel
theorem dX9_close_10 : decode cX9_close 10 = .ok (.invokevirtual 200, 3) := by decide +kernel
theorem dX9_close_13 : decode cX9_close 13 = .ok (.ireturn, 1) := by decide +kernel
theorem p_close (hG : GP G) (hM : MoS S r) (hW : MWo mu r) {x : Int} (hx : -2147483648 ≤ x ∧ x ≤ 2147483647) (ho : clF (mu (r + 1) 2) x = 0 → okT (trT mu r) (mu (r + 1) 2) x) : Ct G l yX9_close wsX9_close 5 0 0 [.ref r, .int (I32 x)] S n mu la (Dt (some (.int (I32 (dnA (if clF (mu (r + 1) 2) x = 0 then ptT (up (hdM mu r) r 19 (sxT (trT mu r) x)) r (tkT (trT mu r) (mu (r + 1) 2) x) else ptT (hdM mu r) r (trT mu r)) r (clF (mu (r + 1) 2) x))))) S n (dnM (if clF (mu (r + 1) 2) x = 0 then ptT (up (hdM mu r) r 19 (sxT (trT mu r) x)) r (tkT (trT mu r) (mu (r + 1) 2) x) else ptT (hdM mu r) r (trT mu r)) r (clF (mu (r + 1) 2) x)) la) := by
  have o9 := hM.1
  obtain ⟨w1, w2, w3, w4, w5⟩ := hW
  have e2 : hdM mu r (r + 1) 2 = mu (r + 1) 2 := hdM_1 mu r 2
  have hF : -2147483648 ≤ clF (mu (r + 1) 2) x ∧ clF (mu (r + 1) 2) x ≤ 2147483647 := by unfold clF; (repeat' split) <;> omega
  have hq : 0 ≤ (if clF (mu (r + 1) 2) x = 0 then ptT (up (hdM mu r) r 19 (sxT (trT mu r) x)) r (tkT (trT mu r) (mu (r + 1) 2) x) else ptT (hdM mu r) r (trT mu r)) r 4 ∧ (if clF (mu (r + 1) 2) x = 0 then ptT (up (hdM mu r) r 19 (sxT (trT mu r) x)) r (tkT (trT mu r) (mu (r + 1) 2) x) else ptT (hdM mu r) r (trT mu r)) r 4 ≤ 4 := by
    split
    · rw [pt_r, up_i _ _ _ (by omega), hdM_r]; exact w4
    · rw [pt_r, hdM_r]; exact w4
  refine Ct.ofV (cc := cX9_close) (nL := 2) (ret := (some .int)) [some (.ref r), some (.int (I32 x))] hG (by decide) rfl (Nat.le_of_ble_eq_true rfl) rfl ?_
  rintro X rfl rfl C hcl hsl E
  refine V_aload_n C dX9_close_0 rfl ?_
  refine V_callVD (nA := 0) C dX9_close_1 (m_hold C.gp hM) gX9_close_X9_hold rfl o9 rfl (by decide +kernel) rfl (by decide) (by decide) (Nat.le_of_ble_eq_true rfl) ⟨by omega, by omega⟩ rfl ?_
  rw [show cpF mu (r + 1) (r + 3) 1639 = ptT (hdM mu r) r (trT mu r) from hdM_pt mu r]
  refine V_aload_n C dX9_close_4 rfl ?_
  refine V_aload_n C dX9_close_5 rfl ?_
  refine V_iload_n C dX9_close_6 rfl ?_
  have h9 := m_closes (l := xL X) (n := n) (la := la) (mu := hdM mu r) (T := trT mu r) C.gp hM w2 (by omega) (by rw [e2]; exact w3) hx (by rw [e2]; exact ho)
  rw [e2] at h9
  refine V_callVD (nA := 1) C dX9_close_7 h9 gX9_close_X9_closes rfl o9 rfl (by decide +kernel) rfl (by decide) (by decide) (Nat.le_of_ble_eq_true rfl) ⟨by omega, by omega⟩ rfl ?_
  refine V_callVD (nA := 1) C dX9_close_10 (m_done C.gp hM hq hF) gX9_close_X9_done rfl o9 rfl (by decide +kernel) rfl (by decide) (by decide) (Nat.le_of_ble_eq_true rfl) ⟨by omega, by omega⟩ rfl ?_
  refine V_ireturn C E dX9_close_13 (by omega) (by omega) ?_
  exact Dt_rfl
set_option maxRecDepth 20000 in
theorem ggX9_setShare_X9_hold : GoodIn wsX9_setShare wsX9_hold := goodIn_r _ [5, 6, 7, 8, 9, 4, 10, 59, 60, 61, 62, 63, 64, 65, 66, 67, 68, 69, 70, 71, 72, 73, 74, 75, 76, 77, 78, 79, 80, 81, 82] (by decide +kernel) (by decide +kernel)
set_option maxRecDepth 20000 in
theorem gX9_setShare_X9_hold : GoodIn wsX9_setShare (wsV RX9 194 RX9 yX9_hold wsX9_hold) := goodIn_app (goodIn_of _ (by decide +kernel)) ggX9_setShare_X9_hold
set_option maxRecDepth 20000 in
theorem ggX9_setShare_X9_weighs : GoodIn wsX9_setShare wsX9_weighs := goodIn_r _ [14, 15, 16, 17, 18, 19, 4, 20, 7, 21, 22, 23, 24, 25, 26, 27, 28, 29, 30, 31, 32, 33, 34, 35, 36, 37, 38, 39, 59, 60, 61, 62, 63, 64, 65, 66, 67, 68, 69, 70, 71, 72, 73, 74, 75, 76, 77, 78, 79, 80, 81, 82] (by decide +kernel) (by decide +kernel)
set_option maxRecDepth 20000 in
theorem gX9_setShare_X9_weighs : GoodIn wsX9_setShare (wsV RX9 216 RX9 yX9_weighs wsX9_weighs) := goodIn_app (goodIn_of _ (by decide +kernel)) ggX9_setShare_X9_weighs
set_option maxRecDepth 20000 in
theorem ggX9_setShare_X9_done : GoodIn wsX9_setShare wsX9_done := goodIn_r _ [43, 16, 44, 45, 46, 4, 47, 48, 49, 50, 51, 52, 53, 54, 6, 55, 56, 57, 58, 59, 60, 61, 62, 63, 64, 65, 66, 67, 68, 69, 70, 71, 72, 73, 74, 75, 76, 77, 78, 79, 80, 81, 82] (by decide +kernel) (by decide +kernel)
set_option maxRecDepth 20000 in
theorem gX9_setShare_X9_done : GoodIn wsX9_setShare (wsV RX9 200 RX9 yX9_done wsX9_done) := goodIn_app (goodIn_of _ (by decide +kernel)) ggX9_setShare_X9_done
theorem dX9_setShare_0 : decode cX9_setShare 0 = .ok (.aload_n 0, 1) := by decide +kernel
theorem dX9_setShare_1 : decode cX9_setShare 1 = .ok (.invokevirtual 194, 3) := by decide +kernel
theorem dX9_setShare_4 : decode cX9_setShare 4 = .ok (.aload_n 0, 1) := by decide +kernel
theorem dX9_setShare_5 : decode cX9_setShare 5 = .ok (.aload_n 0, 1) := by decide +kernel
theorem dX9_setShare_6 : decode cX9_setShare 6 = .ok (.iload_n 1, 1) := by decide +kernel
theorem dX9_setShare_7 : decode cX9_setShare 7 = .ok (.iload_n 2, 1) := by decide +kernel
theorem dX9_setShare_8 : decode cX9_setShare 8 = .ok (.invokevirtual 216, 3) := by decide +kernel
theorem dX9_setShare_11 : decode cX9_setShare 11 = .ok (.invokevirtual 200, 3) := by decide +kernel
theorem dX9_setShare_14 : decode cX9_setShare 14 = .ok (.ireturn, 1) := by decide +kernel
theorem p_setShare (hG : GP G) (hM : MoS S r) (hW : MWo mu r) {x w : Int} (hx : -2147483648 ≤ x ∧ x ≤ 2147483647) (hw : -2147483648 ≤ w ∧ w ≤ 2147483647) : Ct G l yX9_setShare wsX9_setShare 3 0 0 [.ref r, .int (I32 x), .int (I32 w)] S n mu la (Dt (some (.int (I32 (dnA (if wgF (trT mu r) (mu (r + 1) 2) x w = 0 then ptT (up (hdM mu r) r 19 (trT mu r 3 (trT mu r 9 x))) r (up (trT mu r) 3 (trT mu r 9 x) w) else ptT (hdM mu r) r (trT mu r)) r (wgF (trT mu r) (mu (r + 1) 2) x w))))) S n (dnM (if wgF (trT mu r) (mu (r + 1) 2) x w = 0 then ptT (up (hdM mu r) r 19 (trT mu r 3 (trT mu r 9 x))) r (up (trT mu r) 3 (trT mu r 9 x) w) else ptT (hdM mu r) r (trT mu r)) r (wgF (trT mu r) (mu (r + 1) 2) x w)) la) := by
  have o9 := hM.1
  obtain ⟨w1, w2, w3, w4, w5⟩ := hW
  have e2 : hdM mu r (r + 1) 2 = mu (r + 1) 2 := hdM_1 mu r 2
  have hF : -2147483648 ≤ wgF (trT mu r) (mu (r + 1) 2) x w ∧ wgF (trT mu r) (mu (r + 1) 2) x w ≤ 2147483647 := by unfold wgF; (repeat' split) <;> omega
  have hq : 0 ≤ (if wgF (trT mu r) (mu (r + 1) 2) x w = 0 then ptT (up (hdM mu r) r 19 (trT mu r 3 (trT mu r 9 x))) r (up (trT mu r) 3 (trT mu r 9 x) w) else ptT (hdM mu r) r (trT mu r)) r 4 ∧ (if wgF (trT mu r) (mu (r + 1) 2) x w = 0 then ptT (up (hdM mu r) r 19 (trT mu r 3 (trT mu r 9 x))) r (up (trT mu r) 3 (trT mu r 9 x) w) else ptT (hdM mu r) r (trT mu r)) r 4 ≤ 4 := by
    split
    · rw [pt_r, up_i _ _ _ (by omega), hdM_r]; exact w4
    · rw [pt_r, hdM_r]; exact w4
  refine Ct.ofV (cc := cX9_setShare) (nL := 3) (ret := (some .int)) [some (.ref r), some (.int (I32 x)), some (.int (I32 w))] hG (by decide) rfl (Nat.le_of_ble_eq_true rfl) rfl ?_
  rintro X rfl rfl C hcl hsl E
  refine V_aload_n C dX9_setShare_0 rfl ?_
  refine V_callVD (nA := 0) C dX9_setShare_1 (m_hold C.gp hM) gX9_setShare_X9_hold rfl o9 rfl (by decide +kernel) rfl (by decide) (by decide) (Nat.le_of_ble_eq_true rfl) ⟨by omega, by omega⟩ rfl ?_
  rw [show cpF mu (r + 1) (r + 3) 1639 = ptT (hdM mu r) r (trT mu r) from hdM_pt mu r]
  refine V_aload_n C dX9_setShare_4 rfl ?_
  refine V_aload_n C dX9_setShare_5 rfl ?_
  refine V_iload_n C dX9_setShare_6 rfl ?_
  refine V_iload_n C dX9_setShare_7 rfl ?_
  have h9 := m_weighs (l := xL X) (n := n) (la := la) (mu := hdM mu r) (T := trT mu r) C.gp hM w2 (by omega) (by rw [e2]; exact w3) hx hw
  rw [e2] at h9
  refine V_callVD (nA := 2) C dX9_setShare_8 h9 gX9_setShare_X9_weighs rfl o9 rfl (by decide +kernel) rfl (by decide) (by decide) (Nat.le_of_ble_eq_true rfl) ⟨by omega, by omega⟩ rfl ?_
  refine V_callVD (nA := 1) C dX9_setShare_11 (m_done C.gp hM hq hF) gX9_setShare_X9_done rfl o9 rfl (by decide +kernel) rfl (by decide) (by decide) (Nat.le_of_ble_eq_true rfl) ⟨by omega, by omega⟩ rfl ?_
  refine V_ireturn C E dX9_setShare_14 (by omega) (by omega) ?_
  exact Dt_rfl
set_option maxRecDepth 20000 in
theorem ggX9_save_X9_hold : GoodIn wsX9_save wsX9_hold := goodIn_r _ [5, 6, 7, 8, 9, 4, 10, 38, 39, 40, 41, 42, 43, 44, 45, 46, 47, 48, 49, 50, 51, 52, 53, 54, 55, 56, 57, 58, 59, 60, 61] (by decide +kernel) (by decide +kernel)
set_option maxRecDepth 20000 in
theorem gX9_save_X9_hold : GoodIn wsX9_save (wsV RX9 194 RX9 yX9_hold wsX9_hold) := goodIn_app (goodIn_of _ (by decide +kernel)) ggX9_save_X9_hold
set_option maxRecDepth 20000 in
theorem ggX9_save_X9_saves : GoodIn wsX9_save wsX9_saves := goodIn_r _ [14, 7, 15, 16, 17, 4, 18, 38, 39, 40, 41, 42, 43, 44, 45, 46, 47, 48, 49, 50, 51, 52, 53, 54, 55, 56, 57, 58, 59, 60, 61] (by decide +kernel) (by decide +kernel)
set_option maxRecDepth 20000 in
theorem gX9_save_X9_saves : GoodIn wsX9_save (wsV RX9 228 RX9 yX9_saves wsX9_saves) := goodIn_app (goodIn_of _ (by decide +kernel)) ggX9_save_X9_saves
set_option maxRecDepth 20000 in
theorem ggX9_save_X9_done : GoodIn wsX9_save wsX9_done := goodIn_r _ [22, 15, 23, 24, 25, 4, 26, 27, 28, 29, 30, 31, 32, 33, 6, 34, 35, 36, 37, 38, 39, 40, 41, 42, 43, 44, 45, 46, 47, 48, 49, 50, 51, 52, 53, 54, 55, 56, 57, 58, 59, 60, 61] (by decide +kernel) (by decide +kernel)
set_option maxRecDepth 20000 in
theorem gX9_save_X9_done : GoodIn wsX9_save (wsV RX9 200 RX9 yX9_done wsX9_done) := goodIn_app (goodIn_of _ (by decide +kernel)) ggX9_save_X9_done
theorem dX9_save_0 : decode cX9_save 0 = .ok (.aload_n 0, 1) := by decide +kernel
theorem dX9_save_1 : decode cX9_save 1 = .ok (.invokevirtual 194, 3) := by decide +kernel
theorem dX9_save_4 : decode cX9_save 4 = .ok (.aload_n 0, 1) := by decide +kernel
theorem dX9_save_5 : decode cX9_save 5 = .ok (.aload_n 0, 1) := by decide +kernel
theorem dX9_save_6 : decode cX9_save 6 = .ok (.iload_n 1, 1) := by decide +kernel
theorem dX9_save_7 : decode cX9_save 7 = .ok (.invokevirtual 228, 3) := by decide +kernel
theorem dX9_save_10 : decode cX9_save 10 = .ok (.invokevirtual 200, 3) := by decide +kernel
theorem dX9_save_13 : decode cX9_save 13 = .ok (.ireturn, 1) := by decide +kernel
theorem p_save (hG : GP G) (hM : MoS S r) (hW : MWo mu r) {x : Int} (hx : -2147483648 ≤ x ∧ x ≤ 2147483647) : Ct G l yX9_save wsX9_save 3 0 0 [.ref r, .int (I32 x)] S n mu la (Dt (some (.int (I32 (dnA (if svF x = 0 then svB (hdM mu r) r (trT mu r) x else ptT (hdM mu r) r (trT mu r)) r (svF x))))) S n (dnM (if svF x = 0 then svB (hdM mu r) r (trT mu r) x else ptT (hdM mu r) r (trT mu r)) r (svF x)) la) := by
  have o9 := hM.1
  obtain ⟨w1, w2, w3, w4, w5⟩ := hW
  have e2 : hdM mu r (r + 1) 2 = mu (r + 1) 2 := hdM_1 mu r 2
  have hF : -2147483648 ≤ svF x ∧ svF x ≤ 2147483647 := by unfold svF; (repeat' split) <;> omega
  have hq : 0 ≤ (if svF x = 0 then svB (hdM mu r) r (trT mu r) x else ptT (hdM mu r) r (trT mu r)) r 4 ∧ (if svF x = 0 then svB (hdM mu r) r (trT mu r) x else ptT (hdM mu r) r (trT mu r)) r 4 ≤ 4 := by
    split
    · unfold svB svP; rw [if_neg (by omega), up_a _ _ _ _ (by omega), pt_r, up_i _ _ _ (by omega), hdM_r]; exact w4
    · rw [pt_r, hdM_r]; exact w4
  refine Ct.ofV (cc := cX9_save) (nL := 2) (ret := (some .int)) [some (.ref r), some (.int (I32 x))] hG (by decide) rfl (Nat.le_of_ble_eq_true rfl) rfl ?_
  rintro X rfl rfl C hcl hsl E
  refine V_aload_n C dX9_save_0 rfl ?_
  refine V_callVD (nA := 0) C dX9_save_1 (m_hold C.gp hM) gX9_save_X9_hold rfl o9 rfl (by decide +kernel) rfl (by decide) (by decide) (Nat.le_of_ble_eq_true rfl) ⟨by omega, by omega⟩ rfl ?_
  rw [show cpF mu (r + 1) (r + 3) 1639 = ptT (hdM mu r) r (trT mu r) from hdM_pt mu r]
  refine V_aload_n C dX9_save_4 rfl ?_
  refine V_aload_n C dX9_save_5 rfl ?_
  refine V_iload_n C dX9_save_6 rfl ?_
  have h9 := m_saves (l := xL X) (n := n) (la := la) (mu := hdM mu r) (T := trT mu r) C.gp hM hx
  refine V_callVD (nA := 1) C dX9_save_7 h9 gX9_save_X9_saves rfl o9 rfl (by decide +kernel) rfl (by decide) (by decide) (Nat.le_of_ble_eq_true rfl) ⟨by omega, by omega⟩ rfl ?_
  refine V_callVD (nA := 1) C dX9_save_10 (m_done C.gp hM hq hF) gX9_save_X9_done rfl o9 rfl (by decide +kernel) rfl (by decide) (by decide) (Nat.le_of_ble_eq_true rfl) ⟨by omega, by omega⟩ rfl ?_
  refine V_ireturn C E dX9_save_13 (by omega) (by omega) ?_
  exact Dt_rfl
set_option maxRecDepth 20000 in
theorem ggX9_bringBack_X9_hold : GoodIn wsX9_bringBack wsX9_hold := goodIn_r _ [5, 6, 7, 8, 9, 4, 10, 42, 43, 44, 45, 46, 47, 48, 49, 50, 51, 52, 53, 54, 55, 56, 57, 58, 59, 60, 61, 62, 63, 64, 65] (by decide +kernel) (by decide +kernel)
set_option maxRecDepth 20000 in
theorem gX9_bringBack_X9_hold : GoodIn wsX9_bringBack (wsV RX9 194 RX9 yX9_hold wsX9_hold) := goodIn_app (goodIn_of _ (by decide +kernel)) ggX9_bringBack_X9_hold
set_option maxRecDepth 20000 in
theorem ggX9_bringBack_X9_brings : GoodIn wsX9_bringBack wsX9_brings := goodIn_r _ [14, 7, 15, 16, 17, 4, 18, 19, 20, 21, 22, 42, 43, 44, 45, 46, 47, 48, 49, 50, 51, 52, 53, 54, 55, 56, 57, 58, 59, 60, 61, 62, 63, 64, 65] (by decide +kernel) (by decide +kernel)
set_option maxRecDepth 20000 in
theorem gX9_bringBack_X9_brings : GoodIn wsX9_bringBack (wsV RX9 231 RX9 yX9_brings wsX9_brings) := goodIn_app (goodIn_of _ (by decide +kernel)) ggX9_bringBack_X9_brings
set_option maxRecDepth 20000 in
theorem ggX9_bringBack_X9_done : GoodIn wsX9_bringBack wsX9_done := goodIn_r _ [26, 15, 27, 28, 29, 4, 30, 31, 32, 33, 34, 35, 36, 37, 6, 38, 39, 40, 41, 42, 43, 44, 45, 46, 47, 48, 49, 50, 51, 52, 53, 54, 55, 56, 57, 58, 59, 60, 61, 62, 63, 64, 65] (by decide +kernel) (by decide +kernel)
set_option maxRecDepth 20000 in
theorem gX9_bringBack_X9_done : GoodIn wsX9_bringBack (wsV RX9 200 RX9 yX9_done wsX9_done) := goodIn_app (goodIn_of _ (by decide +kernel)) ggX9_bringBack_X9_done
theorem dX9_bringBack_0 : decode cX9_bringBack 0 = .ok (.aload_n 0, 1) := by decide +kernel
theorem dX9_bringBack_1 : decode cX9_bringBack 1 = .ok (.invokevirtual 194, 3) := by decide +kernel
theorem dX9_bringBack_4 : decode cX9_bringBack 4 = .ok (.aload_n 0, 1) := by decide +kernel
theorem dX9_bringBack_5 : decode cX9_bringBack 5 = .ok (.aload_n 0, 1) := by decide +kernel
theorem dX9_bringBack_6 : decode cX9_bringBack 6 = .ok (.iload_n 1, 1) := by decide +kernel
theorem dX9_bringBack_7 : decode cX9_bringBack 7 = .ok (.invokevirtual 231, 3) := by decide +kernel
theorem dX9_bringBack_10 : decode cX9_bringBack 10 = .ok (.invokevirtual 200, 3) := by decide +kernel
theorem dX9_bringBack_13 : decode cX9_bringBack 13 = .ok (.ireturn, 1) := by decide +kernel
theorem p_bringBack (hG : GP G) (hM : MoS S r) (hW : MWo mu r) {x : Int} (hx : -2147483648 ≤ x ∧ x ≤ 2147483647) : Ct G l yX9_bringBack wsX9_bringBack 3 0 0 [.ref r, .int (I32 x)] S n mu la (Dt (some (.int (I32 (dnA (if brF (hdM mu r) r x = 0 then brB (hdM mu r) r x else ptT (hdM mu r) r (trT mu r)) r (brF (hdM mu r) r x))))) S n (dnM (if brF (hdM mu r) r x = 0 then brB (hdM mu r) r x else ptT (hdM mu r) r (trT mu r)) r (brF (hdM mu r) r x)) la) := by
  have o9 := hM.1
  obtain ⟨w1, w2, w3, w4, w5⟩ := hW
  have e2 : hdM mu r (r + 1) 2 = mu (r + 1) 2 := hdM_1 mu r 2
  have hF : -2147483648 ≤ brF (hdM mu r) r x ∧ brF (hdM mu r) r x ≤ 2147483647 := by unfold brF; (repeat' split) <;> omega
  have hq : 0 ≤ (if brF (hdM mu r) r x = 0 then brB (hdM mu r) r x else ptT (hdM mu r) r (trT mu r)) r 4 ∧ (if brF (hdM mu r) r x = 0 then brB (hdM mu r) r x else ptT (hdM mu r) r (trT mu r)) r 4 ≤ 4 := by
    split
    · unfold brB; rw [pt_r, up_i _ _ _ (by omega), hdM_r]; exact w4
    · rw [pt_r, hdM_r]; exact w4
  refine Ct.ofV (cc := cX9_bringBack) (nL := 2) (ret := (some .int)) [some (.ref r), some (.int (I32 x))] hG (by decide) rfl (Nat.le_of_ble_eq_true rfl) rfl ?_
  rintro X rfl rfl C hcl hsl E
  refine V_aload_n C dX9_bringBack_0 rfl ?_
  refine V_callVD (nA := 0) C dX9_bringBack_1 (m_hold C.gp hM) gX9_bringBack_X9_hold rfl o9 rfl (by decide +kernel) rfl (by decide) (by decide) (Nat.le_of_ble_eq_true rfl) ⟨by omega, by omega⟩ rfl ?_
  rw [show cpF mu (r + 1) (r + 3) 1639 = ptT (hdM mu r) r (trT mu r) from hdM_pt mu r]
  refine V_aload_n C dX9_bringBack_4 rfl ?_
  refine V_aload_n C dX9_bringBack_5 rfl ?_
  refine V_iload_n C dX9_bringBack_6 rfl ?_
  have h9 := m_brings (l := xL X) (n := n) (la := la) (mu := hdM mu r) (T := trT mu r) C.gp hM (hdM_R w1 r) (by rw [e2]; exact w3) hx
  refine V_callVD (nA := 1) C dX9_bringBack_7 h9 gX9_bringBack_X9_brings rfl o9 rfl (by decide +kernel) rfl (by decide) (by decide) (Nat.le_of_ble_eq_true rfl) ⟨by omega, by omega⟩ rfl ?_
  refine V_callVD (nA := 1) C dX9_bringBack_10 (m_done C.gp hM hq hF) gX9_bringBack_X9_done rfl o9 rfl (by decide +kernel) rfl (by decide) (by decide) (Nat.le_of_ble_eq_true rfl) ⟨by omega, by omega⟩ rfl ?_
  refine V_ireturn C E dX9_bringBack_13 (by omega) (by omega) ?_
  exact Dt_rfl
set_option maxRecDepth 20000 in
theorem ggX9_isWindow_X9_in : GoodIn wsX9_isWindow wsX9_in := goodIn_r _ [4] (by decide +kernel) (by decide +kernel)
set_option maxRecDepth 20000 in
theorem gX9_isWindow_X9_in : GoodIn wsX9_isWindow (va_wsS RX9 73 yX9_in wsX9_in) := goodIn_app (goodIn_of _ (by decide +kernel)) ggX9_isWindow_X9_in
theorem dX9_isWindow_0 : decode cX9_isWindow 0 = .ok (.iload_n 0, 1) := by decide +kernel
theorem dX9_isWindow_1 : decode cX9_isWindow 1 = .ok (.bipush 20, 2) := by decide +kernel
theorem dX9_isWindow_3 : decode cX9_isWindow 3 = .ok (.sipush 400, 3) := by decide +kernel
theorem dX9_isWindow_6 : decode cX9_isWindow 6 = .ok (.invokestatic 73, 3) := by decide +kernel
theorem dX9_isWindow_9 : decode cX9_isWindow 9 = .ok (.ifCond .eq 19, 3) := by decide +kernel
theorem dX9_isWindow_12 : decode cX9_isWindow 12 = .ok (.iload_n 1, 1) := by decide +kernel
theorem dX9_isWindow_13 : decode cX9_isWindow 13 = .ok (.bipush 20, 2) := by decide +kernel
theorem dX9_isWindow_15 : decode cX9_isWindow 15 = .ok (.sipush 400, 3) := by decide +kernel
theorem dX9_isWindow_18 : decode cX9_isWindow 18 = .ok (.invokestatic 73, 3) := by decide +kernel
theorem dX9_isWindow_21 : decode cX9_isWindow 21 = .ok (.ifCond .eq 7, 3) := by decide +kernel
theorem dX9_isWindow_24 : decode cX9_isWindow 24 = .ok (.iconst 1, 1) := by decide +kernel
theorem dX9_isWindow_25 : decode cX9_isWindow 25 = .ok (.goto 4, 3) := by decide +kernel
theorem dX9_isWindow_28 : decode cX9_isWindow 28 = .ok (.iconst 0, 1) := by decide +kernel
theorem dX9_isWindow_29 : decode cX9_isWindow 29 = .ok (.ireturn, 1) := by decide +kernel
theorem m_isWindow (hG : GP G) {x y : Int} (hx : -2147483648 ≤ x ∧ x ≤ 2147483647) (hy : -2147483648 ≤ y ∧ y ≤ 2147483647) : Ct G l yX9_isWindow wsX9_isWindow 1 0 0 [.int (I32 x), .int (I32 y)] S n mu la (Dt (some (.int (I32 (if fwF x y = 0 then 1 else 0)))) S n mu la) := by
  refine Ct.ofV (cc := cX9_isWindow) (nL := 2) (ret := (some .boolean)) [some (.int (I32 x)), some (.int (I32 y))] hG (by decide) rfl (Nat.le_of_ble_eq_true rfl) rfl ?_
  rintro X rfl rfl C hcl hsl E
  refine V_iload_n C dX9_isWindow_0 rfl ?_
  refine V_bipush C dX9_isWindow_1 (by decide +kernel) ?_
  refine V_sipush C dX9_isWindow_3 (by decide +kernel) ?_
  refine V_callSD (nA := 3) C dX9_isWindow_6 (m_in C.gp hx (by omega) (by omega)) gX9_isWindow_X9_in rfl (by decide +kernel) rfl (by decide) (by decide) (Nat.le_of_ble_eq_true rfl) ⟨by omega, by omega⟩ rfl ?_
  by_cases h1 : 20 ≤ x ∧ x ≤ 400
  · rw [inI_1 h1]
    refine V_if_eq C 28 dX9_isWindow_9 (by decide) (by omega) (fun z1 => ?_) (fun z1 => ?_)
    · exact absurd z1 (by decide)
    · refine V_iload_n C dX9_isWindow_12 rfl ?_
      refine V_bipush C dX9_isWindow_13 (by decide +kernel) ?_
      refine V_sipush C dX9_isWindow_15 (by decide +kernel) ?_
      refine V_callSD (nA := 3) C dX9_isWindow_18 (m_in C.gp hy (by omega) (by omega)) gX9_isWindow_X9_in rfl (by decide +kernel) rfl (by decide) (by decide) (Nat.le_of_ble_eq_true rfl) ⟨by omega, by omega⟩ rfl ?_
      by_cases h2 : 20 ≤ y ∧ y ≤ 400
      · rw [show fwF x y = 0 by rw [fwF, if_pos (by omega)], if_pos rfl] at E
        rw [inI_1 h2]
        refine V_if_eq C 28 dX9_isWindow_21 (by decide) (by omega) (fun z2 => ?_) (fun z2 => ?_)
        · exact absurd z2 (by decide)
        · refine V_iconst C dX9_isWindow_24 ?_
          refine V_goto C 29 dX9_isWindow_25 (by decide) ?_
          refine V_zreturn C E (by first | exact Or.inl rfl | exact Or.inr rfl | simp) dX9_isWindow_29 (by omega) (by omega) ?_
          exact Dt_rfl
      · rw [show fwF x y = 2 by rw [fwF, if_neg (by omega)], if_neg (by decide)] at E
        rw [inI_0 h2]
        refine V_if_eq C 28 dX9_isWindow_21 (by decide) (by omega) (fun z2 => ?_) (fun z2 => ?_)
        · refine V_iconst C dX9_isWindow_28 ?_
          refine V_zreturn C E (by first | exact Or.inl rfl | exact Or.inr rfl | simp) dX9_isWindow_29 (by omega) (by omega) ?_
          exact Dt_rfl
        · exact absurd rfl z2
  · rw [show fwF x y = 2 by rw [fwF, if_neg (by omega)], if_neg (by decide)] at E
    rw [inI_0 h1]
    refine V_if_eq C 28 dX9_isWindow_9 (by decide) (by omega) (fun z1 => ?_) (fun z1 => ?_)
    · refine V_iconst C dX9_isWindow_28 ?_
      refine V_zreturn C E (by first | exact Or.inl rfl | exact Or.inr rfl | simp) dX9_isWindow_29 (by omega) (by omega) ?_
      exact Dt_rfl
    · exact absurd rfl z1
set_option maxRecDepth 20000 in
theorem ggX9_setWindow_X9_isWindow : GoodIn wsX9_setWindow wsX9_isWindow := goodIn_r _ [5, 6, 7, 4, 8] (by decide +kernel) (by decide +kernel)
set_option maxRecDepth 20000 in
theorem gX9_setWindow_X9_isWindow : GoodIn wsX9_setWindow (va_wsS RX9 190 yX9_isWindow wsX9_isWindow) := goodIn_app (goodIn_of _ (by decide +kernel)) ggX9_setWindow_X9_isWindow
set_option maxRecDepth 20000 in
theorem ggX9_setWindow_X9_fails : GoodIn wsX9_setWindow wsX9_fails := goodIn_r _ [12, 13, 32, 33, 34, 35, 36, 37, 38, 39, 40, 41, 42, 43, 44, 45, 46, 47, 48, 49, 50, 51, 52, 53, 54, 55] (by decide +kernel) (by decide +kernel)
set_option maxRecDepth 20000 in
theorem gX9_setWindow_X9_fails : GoodIn wsX9_setWindow (wsV RX9 147 RX9 yX9_fails wsX9_fails) := goodIn_app (goodIn_of _ (by decide +kernel)) ggX9_setWindow_X9_fails
set_option maxRecDepth 20000 in
theorem ggX9_setWindow_X9_hold : GoodIn wsX9_setWindow wsX9_hold := goodIn_r _ [17, 18, 1, 19, 20, 4, 21, 32, 33, 34, 35, 36, 37, 38, 39, 40, 41, 42, 43, 44, 45, 46, 47, 48, 49, 50, 51, 52, 53, 54, 55] (by decide +kernel) (by decide +kernel)
set_option maxRecDepth 20000 in
theorem gX9_setWindow_X9_hold : GoodIn wsX9_setWindow (wsV RX9 194 RX9 yX9_hold wsX9_hold) := goodIn_app (goodIn_of _ (by decide +kernel)) ggX9_setWindow_X9_hold
set_option maxRecDepth 20000 in
theorem ggX9_setWindow_X9_ends : GoodIn wsX9_setWindow wsX9_ends := goodIn_r _ [25, 26, 27, 18, 28, 29, 30, 4, 31, 13, 32, 33, 34, 35, 36, 37, 38, 39, 40, 41, 42, 43, 44, 45, 46, 47, 48, 49, 50, 51, 52, 53, 54, 55] (by decide +kernel) (by decide +kernel)
set_option maxRecDepth 20000 in
theorem gX9_setWindow_X9_ends : GoodIn wsX9_setWindow (wsV RX9 153 RX9 yX9_ends wsX9_ends) := goodIn_app (goodIn_of _ (by decide +kernel)) ggX9_setWindow_X9_ends
theorem dX9_setWindow_0 : decode cX9_setWindow 0 = .ok (.iload_n 1, 1) := by decide +kernel
theorem dX9_setWindow_1 : decode cX9_setWindow 1 = .ok (.iload_n 2, 1) := by decide +kernel
theorem dX9_setWindow_2 : decode cX9_setWindow 2 = .ok (.invokestatic 190, 3) := by decide +kernel
theorem dX9_setWindow_5 : decode cX9_setWindow 5 = .ok (.ifCond .ne 9, 3) := by decide +kernel
theorem dX9_setWindow_8 : decode cX9_setWindow 8 = .ok (.aload_n 0, 1) := by decide +kernel
theorem dX9_setWindow_9 : decode cX9_setWindow 9 = .ok (.iconst 1, 1) := by decide +kernel
theorem dX9_setWindow_10 : decode cX9_setWindow 10 = .ok (.invokevirtual 147, 3) := by decide +kernel
theorem dX9_setWindow_13 : decode cX9_setWindow 13 = .ok (.ireturn, 1) := by decide +kernel
theorem dX9_setWindow_14 : decode cX9_setWindow 14 = .ok (.aload_n 0, 1) := by decide +kernel
theorem dX9_setWindow_15 : decode cX9_setWindow 15 = .ok (.invokevirtual 194, 3) := by decide +kernel
theorem dX9_setWindow_18 : decode cX9_setWindow 18 = .ok (.sipush 1000, 3) := by decide +kernel
theorem dX9_setWindow_21 : decode cX9_setWindow 21 = .ok (.aload_n 0, 1) := by decide +kernel
theorem dX9_setWindow_22 : decode cX9_setWindow 22 = .ok (.getfield 7, 3) := by decide +kernel
theorem dX9_setWindow_25 : decode cX9_setWindow 25 = .ok (.iconst 0, 1) := by decide +kernel
theorem dX9_setWindow_26 : decode cX9_setWindow 26 = .ok (.iaload, 1) := by decide +kernel
theorem dX9_setWindow_27 : decode cX9_setWindow 27 = .ok (.imul, 1) := by decide +kernel
theorem dX9_setWindow_28 : decode cX9_setWindow 28 = .ok (.aload_n 0, 1) := by decide +kernel
theorem dX9_setWindow_29 : decode cX9_setWindow 29 = .ok (.getfield 7, 3) := by decide +kernel
theorem dX9_setWindow_32 : decode cX9_setWindow 32 = .ok (.iconst 1, 1) := by decide +kernel
theorem dX9_setWindow_33 : decode cX9_setWindow 33 = .ok (.iaload, 1) := by decide +kernel
theorem dX9_setWindow_34 : decode cX9_setWindow 34 = .ok (.iadd, 1) := by decide +kernel
theorem dX9_setWindow_35 : decode cX9_setWindow 35 = .ok (.istore_n 3, 1) := by decide +kernel
theorem dX9_setWindow_36 : decode cX9_setWindow 36 = .ok (.aload_n 0, 1) := by decide +kernel
theorem dX9_setWindow_37 : decode cX9_setWindow 37 = .ok (.getfield 7, 3) := by decide +kernel
theorem dX9_setWindow_40 : decode cX9_setWindow 40 = .ok (.iconst 0, 1) := by decide +kernel
theorem dX9_setWindow_41 : decode cX9_setWindow 41 = .ok (.iload_n 1, 1) := by decide +kernel
theorem dX9_setWindow_42 : decode cX9_setWindow 42 = .ok (.iastore, 1) := by decide +kernel
theorem dX9_setWindow_43 : decode cX9_setWindow 43 = .ok (.aload_n 0, 1) := by decide +kernel
theorem dX9_setWindow_44 : decode cX9_setWindow 44 = .ok (.getfield 7, 3) := by decide +kernel
theorem dX9_setWindow_47 : decode cX9_setWindow 47 = .ok (.iconst 1, 1) := by decide +kernel
theorem dX9_setWindow_48 : decode cX9_setWindow 48 = .ok (.iload_n 2, 1) := by decide +kernel
theorem dX9_setWindow_49 : decode cX9_setWindow 49 = .ok (.iastore, 1) := by decide +kernel
theorem dX9_setWindow_50 : decode cX9_setWindow 50 = .ok (.aload_n 0, 1) := by decide +kernel
theorem dX9_setWindow_51 : decode cX9_setWindow 51 = .ok (.iload_n 3, 1) := by decide +kernel
theorem dX9_setWindow_52 : decode cX9_setWindow 52 = .ok (.invokevirtual 153, 3) := by decide +kernel
theorem dX9_setWindow_55 : decode cX9_setWindow 55 = .ok (.ireturn, 1) := by decide +kernel
theorem hin_X9_setWindow_X9 : ∀ w ∈ wsX90, w ∈ wsX9_setWindow := by decide +kernel
theorem lk_X9_setWindow_7 : Cond.fieldLink RX9 7 RX9 "s" "[I" ∈ wsX9_setWindow := by decide +kernel
theorem p_setWindow (hG : GP G) (hM : MoS S r) (hW : MWo mu r) {x y : Int} (hx : -2147483648 ≤ x ∧ x ≤ 2147483647) (hy : -2147483648 ≤ y ∧ y ≤ 2147483647) : Ct G l yX9_setWindow wsX9_setWindow 2 0 0 [.ref r, .int (I32 x), .int (I32 y)] S n mu la (Dt (some (.int (I32 (if fwF x y = 0 then 1000 * mu (r + 1) 0 + mu (r + 1) 1 else 0)))) S n (if fwF x y = 0 then swM mu r x y else up mu r 7 1) la) := by
  have o9 := hM.1
  obtain ⟨w1, w2, w3, w4, w5⟩ := hW
  refine Ct.ofV (cc := cX9_setWindow) (nL := 4) (ret := (some .int)) [some (.ref r), some (.int (I32 x)), some (.int (I32 y)), none] hG (by decide) rfl (Nat.le_of_ble_eq_true rfl) rfl ?_
  rintro X rfl rfl C hcl hsl E
  refine V_iload_n C dX9_setWindow_0 rfl ?_
  refine V_iload_n C dX9_setWindow_1 rfl ?_
  refine V_callSD (nA := 2) C dX9_setWindow_2 (m_isWindow C.gp hx hy) gX9_setWindow_X9_isWindow rfl (by decide +kernel) rfl (by decide) (by decide) (Nat.le_of_ble_eq_true rfl) ⟨by omega, by omega⟩ rfl ?_
  by_cases h0 : fwF x y = 0
  · rw [if_pos h0, if_pos h0] at E
    rw [if_pos h0]
    unfold swM at E
    refine V_if_ne C 14 dX9_setWindow_5 (by decide) (by omega) (fun z1 => ?_) (fun z1 => ?_)
    · refine V_aload_n C dX9_setWindow_14 rfl ?_
      refine V_callVD (nA := 0) C dX9_setWindow_15 (m_hold C.gp hM) gX9_setWindow_X9_hold rfl o9 rfl (by decide +kernel) rfl (by decide) (by decide) (Nat.le_of_ble_eq_true rfl) ⟨by omega, by omega⟩ rfl ?_
      rw [show cpF mu (r + 1) (r + 3) 1639 = hdM mu r from rfl]
      refine V_sipush C dX9_setWindow_18 (by decide +kernel) ?_
      refine V_aload_n C dX9_setWindow_21 rfl ?_
      refine V_getR C 0 dX9_setWindow_22 o9 rfl hin_X9_setWindow_X9 (by decide) lk_X9_setWindow_7 rfl rfl ?_
      refine V_iconst C dX9_setWindow_25 ?_
      refine V_ialdJ C dX9_setWindow_26 hM.2.1 (by first | assumption | decide) (by omega) (hdM_1 mu r 0) ?_
      refine V_imul C dX9_setWindow_27 ?_
      refine V_aload_n C dX9_setWindow_28 rfl ?_
      refine V_getR C 0 dX9_setWindow_29 o9 rfl hin_X9_setWindow_X9 (by decide) lk_X9_setWindow_7 rfl rfl ?_
      refine V_iconst C dX9_setWindow_32 ?_
      refine V_ialdJ C dX9_setWindow_33 hM.2.1 (by first | assumption | decide) (by omega) (hdM_1 mu r 1) ?_
      refine V_iadd C dX9_setWindow_34 ?_
      refine V_istore_n C dX9_setWindow_35 rfl (by decide) ?_
      refine V_aload_n C dX9_setWindow_36 rfl ?_
      refine V_getR C 0 dX9_setWindow_37 o9 rfl hin_X9_setWindow_X9 (by decide) lk_X9_setWindow_7 rfl rfl ?_
      refine V_iconst C dX9_setWindow_40 ?_
      refine V_iload_n C dX9_setWindow_41 rfl ?_
      refine V_iastJ C dX9_setWindow_42 hM.2.1 (by first | assumption | decide) (by omega) rfl ?_
      refine V_aload_n C dX9_setWindow_43 rfl ?_
      refine V_getR C 0 dX9_setWindow_44 o9 rfl hin_X9_setWindow_X9 (by decide) lk_X9_setWindow_7 rfl rfl ?_
      refine V_iconst C dX9_setWindow_47 ?_
      refine V_iload_n C dX9_setWindow_48 rfl ?_
      refine V_iastJ C dX9_setWindow_49 hM.2.1 (by first | assumption | decide) (by omega) rfl ?_
      refine V_aload_n C dX9_setWindow_50 rfl ?_
      refine V_iload_n C dX9_setWindow_51 rfl ?_
      refine V_callVD (nA := 1) C dX9_setWindow_52 (m_ends C.gp hM (by rw [up_a _ _ _ _ (by omega), up_a _ _ _ _ (by omega), hdM_r]; exact w4)) gX9_setWindow_X9_ends rfl o9 rfl (by decide +kernel) rfl (by decide) (by decide) (Nat.le_of_ble_eq_true rfl) ⟨by omega, by omega⟩ rfl ?_
      refine V_ireturn C E dX9_setWindow_55 (by omega) (by omega) ?_
      exact Dt_rfl
    · exact absurd z1 (by decide)
  · rw [if_neg h0, if_neg h0] at E
    rw [if_neg h0]
    refine V_if_ne C 14 dX9_setWindow_5 (by decide) (by omega) (fun z1 => ?_) (fun z1 => ?_)
    · exact absurd rfl z1
    · refine V_aload_n C dX9_setWindow_8 rfl ?_
      refine V_iconst C dX9_setWindow_9 ?_
      refine V_callVD (nA := 1) C dX9_setWindow_10 (m_fails C.gp hM) gX9_setWindow_X9_fails rfl o9 rfl (by decide +kernel) rfl (by decide) (by decide) (Nat.le_of_ble_eq_true rfl) ⟨by omega, by omega⟩ rfl ?_
      refine V_ireturn C E dX9_setWindow_13 (by omega) (by omega) ?_
      exact Dt_rfl
set_option maxRecDepth 20000 in
theorem ggX9_setLeast_X9_isPane : GoodIn wsX9_setLeast wsX9_isPane := goodIn_r _ [6, 1, 7, 8, 5, 9, 33, 34, 35, 36, 37, 38, 39, 40, 41, 42, 43, 44, 45, 46, 47, 48, 49, 50, 51, 52, 53, 54, 55, 56] (by decide +kernel) (by decide +kernel)
set_option maxRecDepth 20000 in
theorem gX9_setLeast_X9_isPane : GoodIn wsX9_setLeast (wsV RX9 156 RX9 yX9_isPane wsX9_isPane) := goodIn_app (goodIn_of _ (by decide +kernel)) ggX9_setLeast_X9_isPane
set_option maxRecDepth 20000 in
theorem ggX9_setLeast_X9_fails : GoodIn wsX9_setLeast wsX9_fails := goodIn_r _ [13, 14, 33, 34, 35, 36, 37, 38, 39, 40, 41, 42, 43, 44, 45, 46, 47, 48, 49, 50, 51, 52, 53, 54, 55, 56] (by decide +kernel) (by decide +kernel)
set_option maxRecDepth 20000 in
theorem gX9_setLeast_X9_fails : GoodIn wsX9_setLeast (wsV RX9 147 RX9 yX9_fails wsX9_fails) := goodIn_app (goodIn_of _ (by decide +kernel)) ggX9_setLeast_X9_fails
set_option maxRecDepth 20000 in
theorem ggX9_setLeast_X9_in : GoodIn wsX9_setLeast wsX9_in := goodIn_r _ [9] (by decide +kernel) (by decide +kernel)
set_option maxRecDepth 20000 in
theorem gX9_setLeast_X9_in : GoodIn wsX9_setLeast (va_wsS RX9 73 yX9_in wsX9_in) := goodIn_app (goodIn_of _ (by decide +kernel)) ggX9_setLeast_X9_in
set_option maxRecDepth 20000 in
theorem ggX9_setLeast_X9_hold : GoodIn wsX9_setLeast wsX9_hold := goodIn_r _ [18, 19, 1, 20, 21, 5, 22, 33, 34, 35, 36, 37, 38, 39, 40, 41, 42, 43, 44, 45, 46, 47, 48, 49, 50, 51, 52, 53, 54, 55, 56] (by decide +kernel) (by decide +kernel)
set_option maxRecDepth 20000 in
theorem gX9_setLeast_X9_hold : GoodIn wsX9_setLeast (wsV RX9 194 RX9 yX9_hold wsX9_hold) := goodIn_app (goodIn_of _ (by decide +kernel)) ggX9_setLeast_X9_hold
set_option maxRecDepth 20000 in
theorem ggX9_setLeast_X9_ends : GoodIn wsX9_setLeast wsX9_ends := goodIn_r _ [26, 27, 28, 19, 29, 30, 31, 5, 32, 14, 33, 34, 35, 36, 37, 38, 39, 40, 41, 42, 43, 44, 45, 46, 47, 48, 49, 50, 51, 52, 53, 54, 55, 56] (by decide +kernel) (by decide +kernel)
set_option maxRecDepth 20000 in
theorem gX9_setLeast_X9_ends : GoodIn wsX9_setLeast (wsV RX9 153 RX9 yX9_ends wsX9_ends) := goodIn_app (goodIn_of _ (by decide +kernel)) ggX9_setLeast_X9_ends
theorem dX9_setLeast_0 : decode cX9_setLeast 0 = .ok (.aload_n 0, 1) := by decide +kernel
theorem dX9_setLeast_1 : decode cX9_setLeast 1 = .ok (.iload_n 1, 1) := by decide +kernel
theorem dX9_setLeast_2 : decode cX9_setLeast 2 = .ok (.invokevirtual 156, 3) := by decide +kernel
theorem dX9_setLeast_5 : decode cX9_setLeast 5 = .ok (.ifCond .ne 9, 3) := by decide +kernel
theorem dX9_setLeast_8 : decode cX9_setLeast 8 = .ok (.aload_n 0, 1) := by decide +kernel
theorem dX9_setLeast_9 : decode cX9_setLeast 9 = .ok (.iconst 1, 1) := by decide +kernel
theorem dX9_setLeast_10 : decode cX9_setLeast 10 = .ok (.invokevirtual 147, 3) := by decide +kernel
theorem dX9_setLeast_13 : decode cX9_setLeast 13 = .ok (.ireturn, 1) := by decide +kernel
theorem dX9_setLeast_14 : decode cX9_setLeast 14 = .ok (.iload_n 2, 1) := by decide +kernel
theorem dX9_setLeast_15 : decode cX9_setLeast 15 = .ok (.iconst 1, 1) := by decide +kernel
theorem dX9_setLeast_16 : decode cX9_setLeast 16 = .ok (.bipush 60, 2) := by decide +kernel
theorem dX9_setLeast_18 : decode cX9_setLeast 18 = .ok (.invokestatic 73, 3) := by decide +kernel
theorem dX9_setLeast_21 : decode cX9_setLeast 21 = .ok (.ifCond .eq 13, 3) := by decide +kernel
theorem dX9_setLeast_24 : decode cX9_setLeast 24 = .ok (.iload_n 3, 1) := by decide +kernel
theorem dX9_setLeast_25 : decode cX9_setLeast 25 = .ok (.iconst 1, 1) := by decide +kernel
theorem dX9_setLeast_26 : decode cX9_setLeast 26 = .ok (.bipush 60, 2) := by decide +kernel
theorem dX9_setLeast_28 : decode cX9_setLeast 28 = .ok (.invokestatic 73, 3) := by decide +kernel
theorem dX9_setLeast_31 : decode cX9_setLeast 31 = .ok (.ifCond .ne 9, 3) := by decide +kernel
theorem dX9_setLeast_34 : decode cX9_setLeast 34 = .ok (.aload_n 0, 1) := by decide +kernel
theorem dX9_setLeast_35 : decode cX9_setLeast 35 = .ok (.iconst 2, 1) := by decide +kernel
theorem dX9_setLeast_36 : decode cX9_setLeast 36 = .ok (.invokevirtual 147, 3) := by decide +kernel
theorem dX9_setLeast_39 : decode cX9_setLeast 39 = .ok (.ireturn, 1) := by decide +kernel
theorem dX9_setLeast_40 : decode cX9_setLeast 40 = .ok (.aload_n 0, 1) := by decide +kernel
theorem dX9_setLeast_41 : decode cX9_setLeast 41 = .ok (.invokevirtual 194, 3) := by decide +kernel
theorem dX9_setLeast_44 : decode cX9_setLeast 44 = .ok (.iconst 3, 1) := by decide +kernel
theorem dX9_setLeast_45 : decode cX9_setLeast 45 = .ok (.iconst 2, 1) := by decide +kernel
theorem dX9_setLeast_46 : decode cX9_setLeast 46 = .ok (.iload_n 1, 1) := by decide +kernel
theorem dX9_setLeast_47 : decode cX9_setLeast 47 = .ok (.imul, 1) := by decide +kernel
theorem dX9_setLeast_48 : decode cX9_setLeast 48 = .ok (.iadd, 1) := by decide +kernel
theorem dX9_setLeast_49 : decode cX9_setLeast 49 = .ok (.istore 4, 2) := by decide +kernel
theorem dX9_setLeast_51 : decode cX9_setLeast 51 = .ok (.sipush 1000, 3) := by decide +kernel
theorem dX9_setLeast_54 : decode cX9_setLeast 54 = .ok (.aload_n 0, 1) := by decide +kernel
theorem dX9_setLeast_55 : decode cX9_setLeast 55 = .ok (.getfield 7, 3) := by decide +kernel
theorem dX9_setLeast_58 : decode cX9_setLeast 58 = .ok (.iload 4, 2) := by decide +kernel
theorem dX9_setLeast_60 : decode cX9_setLeast 60 = .ok (.iaload, 1) := by decide +kernel
theorem dX9_setLeast_61 : decode cX9_setLeast 61 = .ok (.imul, 1) := by decide +kernel
theorem dX9_setLeast_62 : decode cX9_setLeast 62 = .ok (.aload_n 0, 1) := by decide +kernel
theorem dX9_setLeast_63 : decode cX9_setLeast 63 = .ok (.getfield 7, 3) := by decide +kernel
theorem dX9_setLeast_66 : decode cX9_setLeast 66 = .ok (.iload 4, 2) := by decide +kernel
theorem dX9_setLeast_68 : decode cX9_setLeast 68 = .ok (.iconst 1, 1) := by decide +kernel
theorem dX9_setLeast_69 : decode cX9_setLeast 69 = .ok (.iadd, 1) := by decide +kernel
theorem dX9_setLeast_70 : decode cX9_setLeast 70 = .ok (.iaload, 1) := by decide +kernel
theorem dX9_setLeast_71 : decode cX9_setLeast 71 = .ok (.iadd, 1) := by decide +kernel
theorem dX9_setLeast_72 : decode cX9_setLeast 72 = .ok (.istore 5, 2) := by decide +kernel
theorem dX9_setLeast_74 : decode cX9_setLeast 74 = .ok (.aload_n 0, 1) := by decide +kernel
theorem dX9_setLeast_75 : decode cX9_setLeast 75 = .ok (.getfield 7, 3) := by decide +kernel
theorem dX9_setLeast_78 : decode cX9_setLeast 78 = .ok (.iload 4, 2) := by decide +kernel
theorem dX9_setLeast_80 : decode cX9_setLeast 80 = .ok (.iload_n 2, 1) := by decide +kernel
theorem dX9_setLeast_81 : decode cX9_setLeast 81 = .ok (.iastore, 1) := by decide +kernel
theorem dX9_setLeast_82 : decode cX9_setLeast 82 = .ok (.aload_n 0, 1) := by decide +kernel
theorem dX9_setLeast_83 : decode cX9_setLeast 83 = .ok (.getfield 7, 3) := by decide +kernel
theorem dX9_setLeast_86 : decode cX9_setLeast 86 = .ok (.iload 4, 2) := by decide +kernel
theorem dX9_setLeast_88 : decode cX9_setLeast 88 = .ok (.iconst 1, 1) := by decide +kernel
theorem dX9_setLeast_89 : decode cX9_setLeast 89 = .ok (.iadd, 1) := by decide +kernel
theorem dX9_setLeast_90 : decode cX9_setLeast 90 = .ok (.iload_n 3, 1) := by decide +kernel
theorem dX9_setLeast_91 : decode cX9_setLeast 91 = .ok (.iastore, 1) := by decide +kernel
theorem dX9_setLeast_92 : decode cX9_setLeast 92 = .ok (.aload_n 0, 1) := by decide +kernel
theorem dX9_setLeast_93 : decode cX9_setLeast 93 = .ok (.iload 5, 2) := by decide +kernel
theorem dX9_setLeast_95 : decode cX9_setLeast 95 = .ok (.invokevirtual 153, 3) := by decide +kernel
theorem dX9_setLeast_98 : decode cX9_setLeast 98 = .ok (.ireturn, 1) := by decide +kernel
theorem hin_X9_setLeast_X9 : ∀ w ∈ wsX90, w ∈ wsX9_setLeast := by decide +kernel
theorem lk_X9_setLeast_7 : Cond.fieldLink RX9 7 RX9 "s" "[I" ∈ wsX9_setLeast := by decide +kernel
def slF9 (P p w h : Int) : Int := if ¬ (0 ≤ p ∧ p ≤ P - 1) then 1 else if ¬ (1 ≤ w ∧ w ≤ 60) ∨ ¬ (1 ≤ h ∧ h ≤ 60) then 2 else 0
theorem p_setLeast (hG : GP G) (hM : MoS S r) (hW : MWo mu r) {x y z : Int} (hx : -2147483648 ≤ x ∧ x ≤ 2147483647) (hy : -2147483648 ≤ y ∧ y ≤ 2147483647) (hz : -2147483648 ≤ z ∧ z ≤ 2147483647) : Ct G l yX9_setLeast wsX9_setLeast 2 0 0 [.ref r, .int (I32 x), .int (I32 y), .int (I32 z)] S n mu la (Dt (some (.int (I32 (if slF9 (mu (r + 1) 2) x y z = 0 then 1000 * mu (r + 1) (3 + 2 * x) + mu (r + 1) (3 + 2 * x + 1) else 0)))) S n (if slF9 (mu (r + 1) 2) x y z = 0 then slM mu r x y z else up mu r 7 (slF9 (mu (r + 1) 2) x y z)) la) := by
  have o9 := hM.1
  obtain ⟨w1, w2, w3, w4, w5⟩ := hW
  refine Ct.ofV (cc := cX9_setLeast) (nL := 6) (ret := (some .int)) [some (.ref r), some (.int (I32 x)), some (.int (I32 y)), some (.int (I32 z)), none, none] hG (by decide) rfl (Nat.le_of_ble_eq_true rfl) rfl ?_
  rintro X rfl rfl C hcl hsl E
  refine V_aload_n C dX9_setLeast_0 rfl ?_
  refine V_iload_n C dX9_setLeast_1 rfl ?_
  refine V_callVD (nA := 1) C dX9_setLeast_2 (m_isPane C.gp hM w3 hx) gX9_setLeast_X9_isPane rfl o9 rfl (by decide +kernel) rfl (by decide) (by decide) (Nat.le_of_ble_eq_true rfl) ⟨by omega, by omega⟩ rfl ?_
  by_cases hb : 0 ≤ x ∧ x ≤ mu (r + 1) 2 - 1
  · skip
    rw [inI_1 hb]
    refine V_if_ne C 14 dX9_setLeast_5 (by decide) (by omega) (fun z0 => ?_) (fun z0 => ?_)
    · have bad : (¬ (1 ≤ y ∧ y ≤ 60) ∨ ¬ (1 ≤ z ∧ z ≤ 60)) → V X 34 [some (.ref r), some (.int (I32 x)), some (.int (I32 y)), some (.int (I32 z)), none, none] [] S n mu la 0 0 := by
        intro hc
        rw [show slF9 (mu (r + 1) 2) x y z = 2 by unfold slF9; (repeat' split) <;> omega, if_neg (by decide), if_neg (by decide)] at E
        refine V_aload_n C dX9_setLeast_34 rfl ?_
        refine V_iconst C dX9_setLeast_35 ?_
        refine V_callVD (nA := 1) C dX9_setLeast_36 (m_fails C.gp hM) gX9_setLeast_X9_fails rfl o9 rfl (by decide +kernel) rfl (by decide) (by decide) (Nat.le_of_ble_eq_true rfl) ⟨by omega, by omega⟩ rfl ?_
        refine V_ireturn C E dX9_setLeast_39 (by omega) (by omega) ?_
        exact Dt_rfl
      refine V_iload_n C dX9_setLeast_14 rfl ?_
      refine V_iconst C dX9_setLeast_15 ?_
      refine V_bipush C dX9_setLeast_16 (by decide +kernel) ?_
      refine V_callSD (nA := 3) C dX9_setLeast_18 (m_in C.gp hy (by omega) (by omega)) gX9_setLeast_X9_in rfl (by decide +kernel) rfl (by decide) (by decide) (Nat.le_of_ble_eq_true rfl) ⟨by omega, by omega⟩ rfl ?_
      by_cases h1 : 1 ≤ y ∧ y ≤ 60
      · rw [inI_1 h1]
        refine V_if_eq C 34 dX9_setLeast_21 (by decide) (by omega) (fun z1 => ?_) (fun z1 => ?_)
        · exact absurd z1 (by decide)
        · refine V_iload_n C dX9_setLeast_24 rfl ?_
          refine V_iconst C dX9_setLeast_25 ?_
          refine V_bipush C dX9_setLeast_26 (by decide +kernel) ?_
          refine V_callSD (nA := 3) C dX9_setLeast_28 (m_in C.gp hz (by omega) (by omega)) gX9_setLeast_X9_in rfl (by decide +kernel) rfl (by decide) (by decide) (Nat.le_of_ble_eq_true rfl) ⟨by omega, by omega⟩ rfl ?_
          by_cases h2 : 1 ≤ z ∧ z ≤ 60
          · have hc : ¬ (¬ (1 ≤ y ∧ y ≤ 60) ∨ ¬ (1 ≤ z ∧ z ≤ 60)) := by omega
            rw [show slF9 (mu (r + 1) 2) x y z = 0 by unfold slF9; (repeat' split) <;> omega, if_pos rfl, if_pos rfl] at E
            unfold slM at E
            rw [inI_1 h2]
            refine V_if_ne C 40 dX9_setLeast_31 (by decide) (by omega) (fun z2 => ?_) (fun z2 => ?_)
            · refine V_aload_n C dX9_setLeast_40 rfl ?_
              refine V_callVD (nA := 0) C dX9_setLeast_41 (m_hold C.gp hM) gX9_setLeast_X9_hold rfl o9 rfl (by decide +kernel) rfl (by decide) (by decide) (Nat.le_of_ble_eq_true rfl) ⟨by omega, by omega⟩ rfl ?_
              rw [show cpF mu (r + 1) (r + 3) 1639 = hdM mu r from rfl]
              refine V_iconst C dX9_setLeast_44 ?_
              refine V_iconst C dX9_setLeast_45 ?_
              refine V_iload_n C dX9_setLeast_46 rfl ?_
              refine V_imul C dX9_setLeast_47 ?_
              refine V_iadd C dX9_setLeast_48 ?_
              refine V_istore C dX9_setLeast_49 rfl (by decide) ?_
              refine V_sipush C dX9_setLeast_51 (by decide +kernel) ?_
              refine V_aload_n C dX9_setLeast_54 rfl ?_
              refine V_getR C 0 dX9_setLeast_55 o9 rfl hin_X9_setLeast_X9 (by decide) lk_X9_setLeast_7 rfl rfl ?_
              refine V_iload C dX9_setLeast_58 rfl ?_
              refine V_ialdJ C dX9_setLeast_60 hM.2.1 (by first | assumption | decide) (by omega) (hdM_1 mu r _) ?_
              refine V_imul C dX9_setLeast_61 ?_
              refine V_aload_n C dX9_setLeast_62 rfl ?_
              refine V_getR C 0 dX9_setLeast_63 o9 rfl hin_X9_setLeast_X9 (by decide) lk_X9_setLeast_7 rfl rfl ?_
              refine V_iload C dX9_setLeast_66 rfl ?_
              refine V_iconst C dX9_setLeast_68 ?_
              refine V_iadd C dX9_setLeast_69 ?_
              refine V_ialdJ C dX9_setLeast_70 hM.2.1 (by first | assumption | decide) (by omega) (hdM_1 mu r _) ?_
              refine V_iadd C dX9_setLeast_71 ?_
              refine V_istore C dX9_setLeast_72 rfl (by decide) ?_
              refine V_aload_n C dX9_setLeast_74 rfl ?_
              refine V_getR C 0 dX9_setLeast_75 o9 rfl hin_X9_setLeast_X9 (by decide) lk_X9_setLeast_7 rfl rfl ?_
              refine V_iload C dX9_setLeast_78 rfl ?_
              refine V_iload_n C dX9_setLeast_80 rfl ?_
              refine V_iastJ C dX9_setLeast_81 hM.2.1 (by first | assumption | decide) (by omega) rfl ?_
              refine V_aload_n C dX9_setLeast_82 rfl ?_
              refine V_getR C 0 dX9_setLeast_83 o9 rfl hin_X9_setLeast_X9 (by decide) lk_X9_setLeast_7 rfl rfl ?_
              refine V_iload C dX9_setLeast_86 rfl ?_
              refine V_iconst C dX9_setLeast_88 ?_
              refine V_iadd C dX9_setLeast_89 ?_
              refine V_iload_n C dX9_setLeast_90 rfl ?_
              refine V_iastJ C dX9_setLeast_91 hM.2.1 (by first | assumption | decide) (by omega) rfl ?_
              refine V_aload_n C dX9_setLeast_92 rfl ?_
              refine V_iload C dX9_setLeast_93 rfl ?_
              refine V_callVD (nA := 1) C dX9_setLeast_95 (m_ends C.gp hM (by rw [up_a _ _ _ _ (by omega), up_a _ _ _ _ (by omega), hdM_r]; exact w4)) gX9_setLeast_X9_ends rfl o9 rfl (by decide +kernel) rfl (by decide) (by decide) (Nat.le_of_ble_eq_true rfl) ⟨by omega, by omega⟩ rfl ?_
              refine V_ireturn C E dX9_setLeast_98 (by omega) (by omega) ?_
              exact Dt_rfl
            · exact absurd z2 (by decide)
          · rw [inI_0 h2]
            refine V_if_ne C 40 dX9_setLeast_31 (by decide) (by omega) (fun z2 => ?_) (fun z2 => ?_)
            · exact absurd rfl z2
            · exact bad (by omega)
      · rw [inI_0 h1]
        refine V_if_eq C 34 dX9_setLeast_21 (by decide) (by omega) (fun z1 => ?_) (fun z1 => ?_)
        · exact bad (by omega)
        · exact absurd rfl z1
    · exact absurd z0 (by decide)
  · rw [show slF9 (mu (r + 1) 2) x y z = 1 by unfold slF9; (repeat' split) <;> omega, if_neg (by decide), if_neg (by decide)] at E
    rw [inI_0 hb]
    refine V_if_ne C 14 dX9_setLeast_5 (by decide) (by omega) (fun z0 => ?_) (fun z0 => ?_)
    · exact absurd rfl z0
    · refine V_aload_n C dX9_setLeast_8 rfl ?_
      refine V_iconst C dX9_setLeast_9 ?_
      refine V_callVD (nA := 1) C dX9_setLeast_10 (m_fails C.gp hM) gX9_setLeast_X9_fails rfl o9 rfl (by decide +kernel) rfl (by decide) (by decide) (Nat.le_of_ble_eq_true rfl) ⟨by omega, by omega⟩ rfl ?_
      refine V_ireturn C E dX9_setLeast_13 (by omega) (by omega) ?_
      exact Dt_rfl
set_option maxRecDepth 20000 in
theorem ggX9_activate_X9_isPane : GoodIn wsX9_activate wsX9_isPane := goodIn_r _ [5, 6, 7, 8, 4, 9, 49, 50, 51, 52, 53, 54, 55, 56, 57, 58, 59, 60, 61, 62, 63, 64, 65, 66, 67, 68, 69, 70, 71, 72] (by decide +kernel) (by decide +kernel)
set_option maxRecDepth 20000 in
theorem gX9_activate_X9_isPane : GoodIn wsX9_activate (wsV RX9 156 RX9 yX9_isPane wsX9_isPane) := goodIn_app (goodIn_of _ (by decide +kernel)) ggX9_activate_X9_isPane
set_option maxRecDepth 20000 in
theorem ggX9_activate_X9_fails : GoodIn wsX9_activate wsX9_fails := goodIn_r _ [13, 14, 49, 50, 51, 52, 53, 54, 55, 56, 57, 58, 59, 60, 61, 62, 63, 64, 65, 66, 67, 68, 69, 70, 71, 72] (by decide +kernel) (by decide +kernel)
set_option maxRecDepth 20000 in
theorem gX9_activate_X9_fails : GoodIn wsX9_activate (wsV RX9 147 RX9 yX9_fails wsX9_fails) := goodIn_app (goodIn_of _ (by decide +kernel)) ggX9_activate_X9_fails
set_option maxRecDepth 20000 in
theorem ggX9_activate_X9_stateOf : GoodIn wsX9_activate wsX9_stateOf := goodIn_r _ [18, 19, 20, 21, 4, 22, 6, 23, 24, 25, 26, 49, 50, 51, 52, 53, 54, 55, 56, 57, 58, 59, 60, 61, 62, 63, 64, 65, 66, 67, 68, 69, 70, 71, 72] (by decide +kernel) (by decide +kernel)
set_option maxRecDepth 20000 in
theorem gX9_activate_X9_stateOf : GoodIn wsX9_activate (wsV RX9 159 RX9 yX9_stateOf wsX9_stateOf) := goodIn_app (goodIn_of _ (by decide +kernel)) ggX9_activate_X9_stateOf
set_option maxRecDepth 20000 in
theorem ggX9_activate_X9_hold : GoodIn wsX9_activate wsX9_hold := goodIn_r _ [30, 31, 6, 32, 33, 4, 34, 49, 50, 51, 52, 53, 54, 55, 56, 57, 58, 59, 60, 61, 62, 63, 64, 65, 66, 67, 68, 69, 70, 71, 72] (by decide +kernel) (by decide +kernel)
set_option maxRecDepth 20000 in
theorem gX9_activate_X9_hold : GoodIn wsX9_activate (wsV RX9 194 RX9 yX9_hold wsX9_hold) := goodIn_app (goodIn_of _ (by decide +kernel)) ggX9_activate_X9_hold
set_option maxRecDepth 20000 in
theorem ggX9_activate_X9_groupOf : GoodIn wsX9_activate wsX9_groupOf := goodIn_r _ [22, 6, 49, 50, 51, 52, 53, 54, 55, 56, 57, 58, 59, 60, 61, 62, 63, 64, 65, 66, 67, 68, 69, 70, 71, 72] (by decide +kernel) (by decide +kernel)
set_option maxRecDepth 20000 in
theorem gX9_activate_X9_groupOf : GoodIn wsX9_activate (wsV RX9 85 RX9 yX9_groupOf wsX9_groupOf) := goodIn_app (goodIn_of _ (by decide +kernel)) ggX9_activate_X9_groupOf
set_option maxRecDepth 20000 in
theorem ggX9_activate_X9_of : GoodIn wsX9_activate wsX9_of := goodIn_r _ [26, 6, 49, 50, 51, 52, 53, 54, 55, 56, 57, 58, 59, 60, 61, 62, 63, 64, 65, 66, 67, 68, 69, 70, 71, 72] (by decide +kernel) (by decide +kernel)
set_option maxRecDepth 20000 in
theorem gX9_activate_X9_of : GoodIn wsX9_activate (wsV RX9 77 RX9 yX9_of wsX9_of) := goodIn_app (goodIn_of _ (by decide +kernel)) ggX9_activate_X9_of
set_option maxRecDepth 20000 in
theorem ggX9_activate_X9_puts : GoodIn wsX9_activate wsX9_puts := goodIn_r _ [38, 6, 49, 50, 51, 52, 53, 54, 55, 56, 57, 58, 59, 60, 61, 62, 63, 64, 65, 66, 67, 68, 69, 70, 71, 72] (by decide +kernel) (by decide +kernel)
set_option maxRecDepth 20000 in
theorem gX9_activate_X9_puts : GoodIn wsX9_activate (wsV RX9 81 RX9 yX9_puts wsX9_puts) := goodIn_app (goodIn_of _ (by decide +kernel)) ggX9_activate_X9_puts
set_option maxRecDepth 20000 in
theorem ggX9_activate_X9_ends : GoodIn wsX9_activate wsX9_ends := goodIn_r _ [42, 43, 44, 31, 45, 46, 47, 4, 48, 14, 49, 50, 51, 52, 53, 54, 55, 56, 57, 58, 59, 60, 61, 62, 63, 64, 65, 66, 67, 68, 69, 70, 71, 72] (by decide +kernel) (by decide +kernel)
set_option maxRecDepth 20000 in
theorem gX9_activate_X9_ends : GoodIn wsX9_activate (wsV RX9 153 RX9 yX9_ends wsX9_ends) := goodIn_app (goodIn_of _ (by decide +kernel)) ggX9_activate_X9_ends
theorem dX9_activate_0 : decode cX9_activate 0 = .ok (.aload_n 0, 1) := by decide +kernel
theorem dX9_activate_1 : decode cX9_activate 1 = .ok (.iload_n 1, 1) := by decide +kernel
theorem dX9_activate_2 : decode cX9_activate 2 = .ok (.invokevirtual 156, 3) := by decide +kernel
theorem dX9_activate_5 : decode cX9_activate 5 = .ok (.ifCond .ne 9, 3) := by decide +kernel
theorem dX9_activate_8 : decode cX9_activate 8 = .ok (.aload_n 0, 1) := by decide +kernel
theorem dX9_activate_9 : decode cX9_activate 9 = .ok (.iconst 1, 1) := by decide +kernel
theorem dX9_activate_10 : decode cX9_activate 10 = .ok (.invokevirtual 147, 3) := by decide +kernel
theorem dX9_activate_13 : decode cX9_activate 13 = .ok (.ireturn, 1) := by decide +kernel
theorem dX9_activate_14 : decode cX9_activate 14 = .ok (.aload_n 0, 1) := by decide +kernel
theorem dX9_activate_15 : decode cX9_activate 15 = .ok (.iload_n 1, 1) := by decide +kernel
theorem dX9_activate_16 : decode cX9_activate 16 = .ok (.invokevirtual 159, 3) := by decide +kernel
theorem dX9_activate_19 : decode cX9_activate 19 = .ok (.ifCond .ne 9, 3) := by decide +kernel
theorem dX9_activate_22 : decode cX9_activate 22 = .ok (.aload_n 0, 1) := by decide +kernel
theorem dX9_activate_23 : decode cX9_activate 23 = .ok (.iconst 2, 1) := by decide +kernel
theorem dX9_activate_24 : decode cX9_activate 24 = .ok (.invokevirtual 147, 3) := by decide +kernel
theorem dX9_activate_27 : decode cX9_activate 27 = .ok (.ireturn, 1) := by decide +kernel
theorem dX9_activate_28 : decode cX9_activate 28 = .ok (.aload_n 0, 1) := by decide +kernel
theorem dX9_activate_29 : decode cX9_activate 29 = .ok (.invokevirtual 194, 3) := by decide +kernel
theorem dX9_activate_32 : decode cX9_activate 32 = .ok (.aload_n 0, 1) := by decide +kernel
theorem dX9_activate_33 : decode cX9_activate 33 = .ok (.aload_n 0, 1) := by decide +kernel
theorem dX9_activate_34 : decode cX9_activate 34 = .ok (.iload_n 1, 1) := by decide +kernel
theorem dX9_activate_35 : decode cX9_activate 35 = .ok (.invokevirtual 85, 3) := by decide +kernel
theorem dX9_activate_38 : decode cX9_activate 38 = .ok (.iconst 4, 1) := by decide +kernel
theorem dX9_activate_39 : decode cX9_activate 39 = .ok (.invokevirtual 77, 3) := by decide +kernel
theorem dX9_activate_42 : decode cX9_activate 42 = .ok (.istore_n 2, 1) := by decide +kernel
theorem dX9_activate_43 : decode cX9_activate 43 = .ok (.aload_n 0, 1) := by decide +kernel
theorem dX9_activate_44 : decode cX9_activate 44 = .ok (.aload_n 0, 1) := by decide +kernel
theorem dX9_activate_45 : decode cX9_activate 45 = .ok (.iload_n 1, 1) := by decide +kernel
theorem dX9_activate_46 : decode cX9_activate 46 = .ok (.invokevirtual 85, 3) := by decide +kernel
theorem dX9_activate_49 : decode cX9_activate 49 = .ok (.iconst 4, 1) := by decide +kernel
theorem dX9_activate_50 : decode cX9_activate 50 = .ok (.iload_n 1, 1) := by decide +kernel
theorem dX9_activate_51 : decode cX9_activate 51 = .ok (.invokevirtual 81, 3) := by decide +kernel
theorem dX9_activate_54 : decode cX9_activate 54 = .ok (.aload_n 0, 1) := by decide +kernel
theorem dX9_activate_55 : decode cX9_activate 55 = .ok (.iload_n 2, 1) := by decide +kernel
theorem dX9_activate_56 : decode cX9_activate 56 = .ok (.invokevirtual 153, 3) := by decide +kernel
theorem dX9_activate_59 : decode cX9_activate 59 = .ok (.ireturn, 1) := by decide +kernel
def avF (T : Mem) (P p : Int) : Int := if ¬ (0 ≤ p ∧ p ≤ P - 1) then 1 else if sxT T p = 0 then 2 else 0
theorem sxT_b (T : Mem) (p : Int) : 0 ≤ sxT T p ∧ sxT T p ≤ 2 := by unfold sxT; (repeat' split) <;> omega
theorem sxT_g {T : Mem} {p : Int} (h : sxT T p ≠ 0) : T 9 p ≠ -1 := by intro z; exact h (by rw [sxT, if_pos z])
theorem p_activate (hG : GP G) (hM : MoS S r) (hW : MWo mu r) {x : Int} (hx : -2147483648 ≤ x ∧ x ≤ 2147483647) : Ct G l yX9_activate wsX9_activate 2 0 0 [.ref r, .int (I32 x)] S n mu la (Dt (some (.int (I32 (if avF (trT mu r) (mu (r + 1) 2) x = 0 then trT mu r 4 (trT mu r 9 x) else 0)))) S n (if avF (trT mu r) (mu (r + 1) 2) x = 0 then enM (ptT (hdM mu r) r (up (trT mu r) 4 (trT mu r 9 x) x)) r else up mu r 7 (avF (trT mu r) (mu (r + 1) 2) x)) la) := by
  have o9 := hM.1
  obtain ⟨w1, w2, w3, w4, w5⟩ := hW
  refine Ct.ofV (cc := cX9_activate) (nL := 3) (ret := (some .int)) [some (.ref r), some (.int (I32 x)), none] hG (by decide) rfl (Nat.le_of_ble_eq_true rfl) rfl ?_
  rintro X rfl rfl C hcl hsl E
  refine V_aload_n C dX9_activate_0 rfl ?_
  refine V_iload_n C dX9_activate_1 rfl ?_
  refine V_callVD (nA := 1) C dX9_activate_2 (m_isPane C.gp hM w3 hx) gX9_activate_X9_isPane rfl o9 rfl (by decide +kernel) rfl (by decide) (by decide) (Nat.le_of_ble_eq_true rfl) ⟨by omega, by omega⟩ rfl ?_
  by_cases hb : 0 ≤ x ∧ x ≤ mu (r + 1) 2 - 1
  · skip
    rw [inI_1 hb]
    have bs := sxT_b (trT mu r) x
    have b9 := w2.g (i := x) (by omega)
    refine V_if_ne C 14 dX9_activate_5 (by decide) (by omega) (fun z0 => ?_) (fun z0 => ?_)
    · refine V_aload_n C dX9_activate_14 rfl ?_
      refine V_iload_n C dX9_activate_15 rfl ?_
      have h9 := m_stateOf (l := xL X) (n := n) (la := la) (mu := mu) (T := trT mu r) C.gp hM w2 (by omega) (x := x) (by omega)
      rw [pt_self] at h9
      refine V_callVD (nA := 1) C dX9_activate_16 h9 gX9_activate_X9_stateOf rfl o9 rfl (by decide +kernel) rfl (by decide) (by decide) (Nat.le_of_ble_eq_true rfl) ⟨by omega, by omega⟩ rfl ?_
      refine V_if_ne C 28 dX9_activate_19 (by decide) (by omega) (fun z1 => ?_) (fun z1 => ?_)
      · have bg := sxT_g z1
        rw [show avF (trT mu r) (mu (r + 1) 2) x = 0 by unfold avF; (repeat' split) <;> omega, if_pos rfl, if_pos rfl] at E
        refine V_aload_n C dX9_activate_28 rfl ?_
        refine V_callVD (nA := 0) C dX9_activate_29 (m_hold C.gp hM) gX9_activate_X9_hold rfl o9 rfl (by decide +kernel) rfl (by decide) (by decide) (Nat.le_of_ble_eq_true rfl) ⟨by omega, by omega⟩ rfl ?_
        rw [show cpF mu (r + 1) (r + 3) 1639 = ptT (hdM mu r) r (trT mu r) from hdM_pt mu r]
        refine V_aload_n C dX9_activate_32 rfl ?_
        refine V_aload_n C dX9_activate_33 rfl ?_
        refine V_iload_n C dX9_activate_34 rfl ?_
        refine V_callVD (nA := 1) C dX9_activate_35 (m_groupOf C.gp hM (by omega)) gX9_activate_X9_groupOf rfl o9 rfl (by decide +kernel) rfl (by decide) (by decide) (Nat.le_of_ble_eq_true rfl) ⟨by omega, by omega⟩ rfl ?_
        refine V_iconst C dX9_activate_38 ?_
        refine V_callVD (nA := 2) C dX9_activate_39 (m_of C.gp hM (by omega) 4 (by decide) rfl) gX9_activate_X9_of rfl o9 rfl (by decide +kernel) rfl (by decide) (by decide) (Nat.le_of_ble_eq_true rfl) ⟨by omega, by omega⟩ rfl ?_
        refine V_istore_n C dX9_activate_42 rfl (by decide) ?_
        refine V_aload_n C dX9_activate_43 rfl ?_
        refine V_aload_n C dX9_activate_44 rfl ?_
        refine V_iload_n C dX9_activate_45 rfl ?_
        refine V_callVD (nA := 1) C dX9_activate_46 (m_groupOf C.gp hM (by omega)) gX9_activate_X9_groupOf rfl o9 rfl (by decide +kernel) rfl (by decide) (by decide) (Nat.le_of_ble_eq_true rfl) ⟨by omega, by omega⟩ rfl ?_
        refine V_iconst C dX9_activate_49 ?_
        refine V_iload_n C dX9_activate_50 rfl ?_
        refine V_callVD (nA := 3) C dX9_activate_51 (m_puts C.gp hM (by omega) 4 (by decide) rfl) gX9_activate_X9_puts rfl o9 rfl (by decide +kernel) rfl (by decide) (by decide) (Nat.le_of_ble_eq_true rfl) ⟨by omega, by omega⟩ rfl ?_
        refine V_aload_n C dX9_activate_54 rfl ?_
        refine V_iload_n C dX9_activate_55 rfl ?_
        refine V_callVD (nA := 1) C dX9_activate_56 (m_ends C.gp hM (by rw [pt_r, hdM_r]; exact w4)) gX9_activate_X9_ends rfl o9 rfl (by decide +kernel) rfl (by decide) (by decide) (Nat.le_of_ble_eq_true rfl) ⟨by omega, by omega⟩ rfl ?_
        refine V_ireturn C E dX9_activate_59 (by omega) (by omega) ?_
        exact Dt_rfl
      · rw [show avF (trT mu r) (mu (r + 1) 2) x = 2 by unfold avF; (repeat' split) <;> omega, if_neg (by decide), if_neg (by decide)] at E
        refine V_aload_n C dX9_activate_22 rfl ?_
        refine V_iconst C dX9_activate_23 ?_
        refine V_callVD (nA := 1) C dX9_activate_24 (m_fails C.gp hM) gX9_activate_X9_fails rfl o9 rfl (by decide +kernel) rfl (by decide) (by decide) (Nat.le_of_ble_eq_true rfl) ⟨by omega, by omega⟩ rfl ?_
        refine V_ireturn C E dX9_activate_27 (by omega) (by omega) ?_
        exact Dt_rfl
    · exact absurd z0 (by decide)
  · rw [show avF (trT mu r) (mu (r + 1) 2) x = 1 by unfold avF; (repeat' split) <;> omega, if_neg (by decide), if_neg (by decide)] at E
    rw [inI_0 hb]
    refine V_if_ne C 14 dX9_activate_5 (by decide) (by omega) (fun z0 => ?_) (fun z0 => ?_)
    · exact absurd rfl z0
    · refine V_aload_n C dX9_activate_8 rfl ?_
      refine V_iconst C dX9_activate_9 ?_
      refine V_callVD (nA := 1) C dX9_activate_10 (m_fails C.gp hM) gX9_activate_X9_fails rfl o9 rfl (by decide +kernel) rfl (by decide) (by decide) (Nat.le_of_ble_eq_true rfl) ⟨by omega, by omega⟩ rfl ?_
      refine V_ireturn C E dX9_activate_13 (by omega) (by omega) ?_
      exact Dt_rfl
set_option maxRecDepth 20000 in
theorem ggX9_raise_X9_isPane : GoodIn wsX9_raise wsX9_isPane := goodIn_r _ [5, 6, 7, 8, 4, 9, 53, 54, 55, 56, 57, 58, 59, 60, 61, 62, 63, 64, 65, 66, 67, 68, 69, 70, 71, 72, 73, 74, 75, 76] (by decide +kernel) (by decide +kernel)
set_option maxRecDepth 20000 in
theorem gX9_raise_X9_isPane : GoodIn wsX9_raise (wsV RX9 156 RX9 yX9_isPane wsX9_isPane) := goodIn_app (goodIn_of _ (by decide +kernel)) ggX9_raise_X9_isPane
set_option maxRecDepth 20000 in
theorem ggX9_raise_X9_fails : GoodIn wsX9_raise wsX9_fails := goodIn_r _ [13, 14, 53, 54, 55, 56, 57, 58, 59, 60, 61, 62, 63, 64, 65, 66, 67, 68, 69, 70, 71, 72, 73, 74, 75, 76] (by decide +kernel) (by decide +kernel)
set_option maxRecDepth 20000 in
theorem gX9_raise_X9_fails : GoodIn wsX9_raise (wsV RX9 147 RX9 yX9_fails wsX9_fails) := goodIn_app (goodIn_of _ (by decide +kernel)) ggX9_raise_X9_fails
set_option maxRecDepth 20000 in
theorem ggX9_raise_X9_stateOf : GoodIn wsX9_raise wsX9_stateOf := goodIn_r _ [18, 19, 20, 21, 4, 22, 6, 23, 24, 25, 26, 53, 54, 55, 56, 57, 58, 59, 60, 61, 62, 63, 64, 65, 66, 67, 68, 69, 70, 71, 72, 73, 74, 75, 76] (by decide +kernel) (by decide +kernel)
set_option maxRecDepth 20000 in
theorem gX9_raise_X9_stateOf : GoodIn wsX9_raise (wsV RX9 159 RX9 yX9_stateOf wsX9_stateOf) := goodIn_app (goodIn_of _ (by decide +kernel)) ggX9_raise_X9_stateOf
set_option maxRecDepth 20000 in
theorem ggX9_raise_X9_hold : GoodIn wsX9_raise wsX9_hold := goodIn_r _ [30, 31, 6, 32, 33, 4, 34, 53, 54, 55, 56, 57, 58, 59, 60, 61, 62, 63, 64, 65, 66, 67, 68, 69, 70, 71, 72, 73, 74, 75, 76] (by decide +kernel) (by decide +kernel)
set_option maxRecDepth 20000 in
theorem gX9_raise_X9_hold : GoodIn wsX9_raise (wsV RX9 194 RX9 yX9_hold wsX9_hold) := goodIn_app (goodIn_of _ (by decide +kernel)) ggX9_raise_X9_hold
set_option maxRecDepth 20000 in
theorem ggX9_raise_X9_groupOf : GoodIn wsX9_raise wsX9_groupOf := goodIn_r _ [22, 6, 53, 54, 55, 56, 57, 58, 59, 60, 61, 62, 63, 64, 65, 66, 67, 68, 69, 70, 71, 72, 73, 74, 75, 76] (by decide +kernel) (by decide +kernel)
set_option maxRecDepth 20000 in
theorem gX9_raise_X9_groupOf : GoodIn wsX9_raise (wsV RX9 85 RX9 yX9_groupOf wsX9_groupOf) := goodIn_app (goodIn_of _ (by decide +kernel)) ggX9_raise_X9_groupOf
set_option maxRecDepth 20000 in
theorem ggX9_raise_X9_of : GoodIn wsX9_raise wsX9_of := goodIn_r _ [26, 6, 53, 54, 55, 56, 57, 58, 59, 60, 61, 62, 63, 64, 65, 66, 67, 68, 69, 70, 71, 72, 73, 74, 75, 76] (by decide +kernel) (by decide +kernel)
set_option maxRecDepth 20000 in
theorem gX9_raise_X9_of : GoodIn wsX9_raise (wsV RX9 77 RX9 yX9_of wsX9_of) := goodIn_app (goodIn_of _ (by decide +kernel)) ggX9_raise_X9_of
set_option maxRecDepth 20000 in
theorem ggX9_raise_X9_puts : GoodIn wsX9_raise wsX9_puts := goodIn_r _ [38, 6, 53, 54, 55, 56, 57, 58, 59, 60, 61, 62, 63, 64, 65, 66, 67, 68, 69, 70, 71, 72, 73, 74, 75, 76] (by decide +kernel) (by decide +kernel)
set_option maxRecDepth 20000 in
theorem gX9_raise_X9_puts : GoodIn wsX9_raise (wsV RX9 81 RX9 yX9_puts wsX9_puts) := goodIn_app (goodIn_of _ (by decide +kernel)) ggX9_raise_X9_puts
set_option maxRecDepth 20000 in
theorem ggX9_raise_X9_count : GoodIn wsX9_raise wsX9_count := goodIn_r _ [42, 23, 24, 25, 4, 26, 6, 53, 54, 55, 56, 57, 58, 59, 60, 61, 62, 63, 64, 65, 66, 67, 68, 69, 70, 71, 72, 73, 74, 75, 76] (by decide +kernel) (by decide +kernel)
set_option maxRecDepth 20000 in
theorem gX9_raise_X9_count : GoodIn wsX9_raise (wsV RX9 186 RX9 yX9_count wsX9_count) := goodIn_app (goodIn_of _ (by decide +kernel)) ggX9_raise_X9_count
set_option maxRecDepth 20000 in
theorem ggX9_raise_X9_ends : GoodIn wsX9_raise wsX9_ends := goodIn_r _ [46, 47, 48, 31, 49, 50, 51, 4, 52, 14, 53, 54, 55, 56, 57, 58, 59, 60, 61, 62, 63, 64, 65, 66, 67, 68, 69, 70, 71, 72, 73, 74, 75, 76] (by decide +kernel) (by decide +kernel)
set_option maxRecDepth 20000 in
theorem gX9_raise_X9_ends : GoodIn wsX9_raise (wsV RX9 153 RX9 yX9_ends wsX9_ends) := goodIn_app (goodIn_of _ (by decide +kernel)) ggX9_raise_X9_ends
theorem dX9_raise_0 : decode cX9_raise 0 = .ok (.aload_n 0, 1) := by decide +kernel
theorem dX9_raise_1 : decode cX9_raise 1 = .ok (.iload_n 1, 1) := by decide +kernel
theorem dX9_raise_2 : decode cX9_raise 2 = .ok (.invokevirtual 156, 3) := by decide +kernel
theorem dX9_raise_5 : decode cX9_raise 5 = .ok (.ifCond .ne 9, 3) := by decide +kernel
theorem dX9_raise_8 : decode cX9_raise 8 = .ok (.aload_n 0, 1) := by decide +kernel
theorem dX9_raise_9 : decode cX9_raise 9 = .ok (.iconst 1, 1) := by decide +kernel
theorem dX9_raise_10 : decode cX9_raise 10 = .ok (.invokevirtual 147, 3) := by decide +kernel
theorem dX9_raise_13 : decode cX9_raise 13 = .ok (.ireturn, 1) := by decide +kernel
theorem dX9_raise_14 : decode cX9_raise 14 = .ok (.aload_n 0, 1) := by decide +kernel
theorem dX9_raise_15 : decode cX9_raise 15 = .ok (.iload_n 1, 1) := by decide +kernel
theorem dX9_raise_16 : decode cX9_raise 16 = .ok (.invokevirtual 159, 3) := by decide +kernel
theorem dX9_raise_19 : decode cX9_raise 19 = .ok (.iconst 2, 1) := by decide +kernel
theorem dX9_raise_20 : decode cX9_raise 20 = .ok (.if_icmp .eq 9, 3) := by decide +kernel
theorem dX9_raise_23 : decode cX9_raise 23 = .ok (.aload_n 0, 1) := by decide +kernel
theorem dX9_raise_24 : decode cX9_raise 24 = .ok (.iconst 2, 1) := by decide +kernel
theorem dX9_raise_25 : decode cX9_raise 25 = .ok (.invokevirtual 147, 3) := by decide +kernel
theorem dX9_raise_28 : decode cX9_raise 28 = .ok (.ireturn, 1) := by decide +kernel
theorem dX9_raise_29 : decode cX9_raise 29 = .ok (.aload_n 0, 1) := by decide +kernel
theorem dX9_raise_30 : decode cX9_raise 30 = .ok (.invokevirtual 194, 3) := by decide +kernel
theorem dX9_raise_33 : decode cX9_raise 33 = .ok (.aload_n 0, 1) := by decide +kernel
theorem dX9_raise_34 : decode cX9_raise 34 = .ok (.iload_n 1, 1) := by decide +kernel
theorem dX9_raise_35 : decode cX9_raise 35 = .ok (.invokevirtual 85, 3) := by decide +kernel
theorem dX9_raise_38 : decode cX9_raise 38 = .ok (.istore_n 2, 1) := by decide +kernel
theorem dX9_raise_39 : decode cX9_raise 39 = .ok (.aload_n 0, 1) := by decide +kernel
theorem dX9_raise_40 : decode cX9_raise 40 = .ok (.iload_n 2, 1) := by decide +kernel
theorem dX9_raise_41 : decode cX9_raise 41 = .ok (.iconst 2, 1) := by decide +kernel
theorem dX9_raise_42 : decode cX9_raise 42 = .ok (.invokevirtual 77, 3) := by decide +kernel
theorem dX9_raise_45 : decode cX9_raise 45 = .ok (.istore_n 3, 1) := by decide +kernel
theorem dX9_raise_46 : decode cX9_raise 46 = .ok (.iconst 0, 1) := by decide +kernel
theorem dX9_raise_47 : decode cX9_raise 47 = .ok (.istore 4, 2) := by decide +kernel
theorem dX9_raise_49 : decode cX9_raise 49 = .ok (.iload 4, 2) := by decide +kernel
theorem dX9_raise_51 : decode cX9_raise 51 = .ok (.bipush 32, 2) := by decide +kernel
theorem dX9_raise_53 : decode cX9_raise 53 = .ok (.if_icmp .ge 47, 3) := by decide +kernel
theorem dX9_raise_56 : decode cX9_raise 56 = .ok (.aload_n 0, 1) := by decide +kernel
theorem dX9_raise_57 : decode cX9_raise 57 = .ok (.iload 4, 2) := by decide +kernel
theorem dX9_raise_59 : decode cX9_raise 59 = .ok (.iconst 0, 1) := by decide +kernel
theorem dX9_raise_60 : decode cX9_raise 60 = .ok (.invokevirtual 77, 3) := by decide +kernel
theorem dX9_raise_63 : decode cX9_raise 63 = .ok (.iconst 4, 1) := by decide +kernel
theorem dX9_raise_64 : decode cX9_raise 64 = .ok (.if_icmp .ne 30, 3) := by decide +kernel
theorem dX9_raise_67 : decode cX9_raise 67 = .ok (.aload_n 0, 1) := by decide +kernel
theorem dX9_raise_68 : decode cX9_raise 68 = .ok (.iload 4, 2) := by decide +kernel
theorem dX9_raise_70 : decode cX9_raise 70 = .ok (.iconst 2, 1) := by decide +kernel
theorem dX9_raise_71 : decode cX9_raise 71 = .ok (.invokevirtual 77, 3) := by decide +kernel
theorem dX9_raise_74 : decode cX9_raise 74 = .ok (.iload_n 3, 1) := by decide +kernel
theorem dX9_raise_75 : decode cX9_raise 75 = .ok (.if_icmp .le 19, 3) := by decide +kernel
theorem dX9_raise_78 : decode cX9_raise 78 = .ok (.aload_n 0, 1) := by decide +kernel
theorem dX9_raise_79 : decode cX9_raise 79 = .ok (.iload 4, 2) := by decide +kernel
theorem dX9_raise_81 : decode cX9_raise 81 = .ok (.iconst 2, 1) := by decide +kernel
theorem dX9_raise_82 : decode cX9_raise 82 = .ok (.aload_n 0, 1) := by decide +kernel
theorem dX9_raise_83 : decode cX9_raise 83 = .ok (.iload 4, 2) := by decide +kernel
theorem dX9_raise_85 : decode cX9_raise 85 = .ok (.iconst 2, 1) := by decide +kernel
theorem dX9_raise_86 : decode cX9_raise 86 = .ok (.invokevirtual 77, 3) := by decide +kernel
theorem dX9_raise_89 : decode cX9_raise 89 = .ok (.iconst 1, 1) := by decide +kernel
theorem dX9_raise_90 : decode cX9_raise 90 = .ok (.isub, 1) := by decide +kernel
theorem dX9_raise_91 : decode cX9_raise 91 = .ok (.invokevirtual 81, 3) := by decide +kernel
theorem dX9_raise_94 : decode cX9_raise 94 = .ok (.iinc 4 1, 3) := by decide +kernel
theorem dX9_raise_97 : decode cX9_raise 97 = .ok (.goto (-48), 3) := by decide +kernel
theorem dX9_raise_100 : decode cX9_raise 100 = .ok (.aload_n 0, 1) := by decide +kernel
theorem dX9_raise_101 : decode cX9_raise 101 = .ok (.iload_n 2, 1) := by decide +kernel
theorem dX9_raise_102 : decode cX9_raise 102 = .ok (.iconst 2, 1) := by decide +kernel
theorem dX9_raise_103 : decode cX9_raise 103 = .ok (.aload_n 0, 1) := by decide +kernel
theorem dX9_raise_104 : decode cX9_raise 104 = .ok (.iconst 4, 1) := by decide +kernel
theorem dX9_raise_105 : decode cX9_raise 105 = .ok (.invokevirtual 186, 3) := by decide +kernel
theorem dX9_raise_108 : decode cX9_raise 108 = .ok (.iconst 1, 1) := by decide +kernel
theorem dX9_raise_109 : decode cX9_raise 109 = .ok (.isub, 1) := by decide +kernel
theorem dX9_raise_110 : decode cX9_raise 110 = .ok (.invokevirtual 81, 3) := by decide +kernel
theorem dX9_raise_113 : decode cX9_raise 113 = .ok (.aload_n 0, 1) := by decide +kernel
theorem dX9_raise_114 : decode cX9_raise 114 = .ok (.iload_n 3, 1) := by decide +kernel
theorem dX9_raise_115 : decode cX9_raise 115 = .ok (.invokevirtual 153, 3) := by decide +kernel
theorem dX9_raise_118 : decode cX9_raise 118 = .ok (.ireturn, 1) := by decide +kernel
def rzF (T : Mem) (P p : Int) : Int := if ¬ (0 ≤ p ∧ p ≤ P - 1) then 1 else if sxT T p = 2 then 0 else 2
theorem p_raise (hG : GP G) (hM : MoS S r) (hW : MWo mu r) {x : Int} (hx : -2147483648 ≤ x ∧ x ≤ 2147483647) : Ct G l yX9_raise wsX9_raise 2 0 0 [.ref r, .int (I32 x)] S n mu la (Dt (some (.int (I32 (if rzF (trT mu r) (mu (r + 1) 2) x = 0 then trT mu r 2 (trT mu r 9 x) else 0)))) S n (if rzF (trT mu r) (mu (r + 1) 2) x = 0 then enM (ptT (hdM mu r) r (rzT (trT mu r) (trT mu r 9 x))) r else up mu r 7 (rzF (trT mu r) (mu (r + 1) 2) x)) la) := by
  have o9 := hM.1
  obtain ⟨w1, w2, w3, w4, w5⟩ := hW
  refine Ct.ofV (cc := cX9_raise) (nL := 5) (ret := (some .int)) [some (.ref r), some (.int (I32 x)), none, none, none] hG (by decide) rfl (Nat.le_of_ble_eq_true rfl) rfl ?_
  rintro X rfl rfl C hcl hsl E
  refine V_aload_n C dX9_raise_0 rfl ?_
  refine V_iload_n C dX9_raise_1 rfl ?_
  refine V_callVD (nA := 1) C dX9_raise_2 (m_isPane C.gp hM w3 hx) gX9_raise_X9_isPane rfl o9 rfl (by decide +kernel) rfl (by decide) (by decide) (Nat.le_of_ble_eq_true rfl) ⟨by omega, by omega⟩ rfl ?_
  by_cases hb : 0 ≤ x ∧ x ≤ mu (r + 1) 2 - 1
  · skip
    rw [inI_1 hb]
    have bs := sxT_b (trT mu r) x
    have b9 := w2.g (i := x) (by omega)
    refine V_if_ne C 14 dX9_raise_5 (by decide) (by omega) (fun z0 => ?_) (fun z0 => ?_)
    · refine V_aload_n C dX9_raise_14 rfl ?_
      refine V_iload_n C dX9_raise_15 rfl ?_
      have h9 := m_stateOf (l := xL X) (n := n) (la := la) (mu := mu) (T := trT mu r) C.gp hM w2 (by omega) (x := x) (by omega)
      rw [pt_self] at h9
      refine V_callVD (nA := 1) C dX9_raise_16 h9 gX9_raise_X9_stateOf rfl o9 rfl (by decide +kernel) rfl (by decide) (by decide) (Nat.le_of_ble_eq_true rfl) ⟨by omega, by omega⟩ rfl ?_
      refine V_iconst C dX9_raise_19 ?_
      refine V_icmp_eq C 29 dX9_raise_20 (by decide) (by omega) (by omega) (fun z1 => ?_) (fun z1 => ?_)
      · have bg := sxT_g (T := trT mu r) (p := x) (by omega)
        rw [show rzF (trT mu r) (mu (r + 1) 2) x = 0 by unfold rzF; (repeat' split) <;> omega, if_pos rfl, if_pos rfl] at E
        refine V_aload_n C dX9_raise_29 rfl ?_
        refine V_callVD (nA := 0) C dX9_raise_30 (m_hold C.gp hM) gX9_raise_X9_hold rfl o9 rfl (by decide +kernel) rfl (by decide) (by decide) (Nat.le_of_ble_eq_true rfl) ⟨by omega, by omega⟩ rfl ?_
        rw [show cpF mu (r + 1) (r + 3) 1639 = ptT (hdM mu r) r (trT mu r) from hdM_pt mu r]
        refine V_aload_n C dX9_raise_33 rfl ?_
        refine V_iload_n C dX9_raise_34 rfl ?_
        refine V_callVD (nA := 1) C dX9_raise_35 (m_groupOf C.gp hM (by omega)) gX9_raise_X9_groupOf rfl o9 rfl (by decide +kernel) rfl (by decide) (by decide) (Nat.le_of_ble_eq_true rfl) ⟨by omega, by omega⟩ rfl ?_
        generalize trT mu r = T at w2 b9 bg E
        generalize T 9 x = g at b9 bg E
        unfold rzT at E
        have b2 := w2.n 2 (by decide) (i := g) (by omega)
        have loop : ∀ (d j : Nat), j + d = 32 → V X 49 [some (.ref r), some (.int (I32 x)), some (.int (I32 g)), some (.int (I32 (T 2 g))), some (.int (I32 (j : Int)))] [] S n (ptT (hdM mu r) r (rzP T (T 2 g) j)) la 0 0 := by
          intro d
          induction d with
          | zero =>
            intro j h1
            have hj : j = 32 := by omega
            subst hj
            have hB2 := rzP_TB w2 (T 2 g) 32
            refine V_iload C dX9_raise_49 rfl ?_
            refine V_bipush C dX9_raise_51 (by decide +kernel) ?_
            refine V_icmp_ge C 100 dX9_raise_53 (by decide) (by omega) (by omega) (fun z53 => ?_) (fun z53 => ?_)
            · refine V_aload_n C dX9_raise_100 rfl ?_
              refine V_iload_n C dX9_raise_101 rfl ?_
              refine V_iconst C dX9_raise_102 ?_
              refine V_aload_n C dX9_raise_103 rfl ?_
              refine V_iconst C dX9_raise_104 ?_
              refine V_callVD (nA := 1) C dX9_raise_105 (m_count C.gp hM hB2 (by omega) (by omega)) gX9_raise_X9_count rfl o9 rfl (by decide +kernel) rfl (by decide) (by decide) (Nat.le_of_ble_eq_true rfl) ⟨by omega, by omega⟩ rfl ?_
              refine V_iconst C dX9_raise_108 ?_
              refine V_isub C dX9_raise_109 ?_
              refine V_callVD (nA := 3) C dX9_raise_110 (m_puts C.gp hM (by omega) 2 (by decide) rfl) gX9_raise_X9_puts rfl o9 rfl (by decide +kernel) rfl (by decide) (by decide) (Nat.le_of_ble_eq_true rfl) ⟨by omega, by omega⟩ rfl ?_
              refine V_aload_n C dX9_raise_113 rfl ?_
              refine V_iload_n C dX9_raise_114 rfl ?_
              refine V_callVD (nA := 1) C dX9_raise_115 (m_ends C.gp hM (by rw [pt_r, hdM_r]; exact w4)) gX9_raise_X9_ends rfl o9 rfl (by decide +kernel) rfl (by decide) (by decide) (Nat.le_of_ble_eq_true rfl) ⟨by omega, by omega⟩ rfl ?_
              refine V_ireturn C E dX9_raise_118 (by omega) (by omega) ?_
              exact Dt_rfl
            · exact absurd z53 (by first | omega | decide)
          | succ d ih =>
            intro j h1
            have hB2 := rzP_TB w2 (T 2 g) j
            have c0 := hB2.n 0 (by decide) (i := (j : Int)) (by omega)
            have c2 := hB2.n 2 (by decide) (i := (j : Int)) (by omega)
            rw [rzP_hi _ _ _ _ (by omega)] at c0 c2
            have h9 := ih (j + 1) (by omega)
            refine V_iload C dX9_raise_49 rfl ?_
            refine V_bipush C dX9_raise_51 (by decide +kernel) ?_
            refine V_icmp_ge C 100 dX9_raise_53 (by decide) (by omega) (by omega) (fun z53 => ?_) (fun z53 => ?_)
            · exact absurd z53 (by first | omega | decide)
            · refine V_aload_n C dX9_raise_56 rfl ?_
              refine V_iload C dX9_raise_57 rfl ?_
              refine V_iconst C dX9_raise_59 ?_
              refine V_callVD (nA := 2) C dX9_raise_60 (m_of C.gp hM (by omega) 0 (by decide) rfl) gX9_raise_X9_of rfl o9 rfl (by decide +kernel) rfl (by decide) (by decide) (Nat.le_of_ble_eq_true rfl) ⟨by omega, by omega⟩ rfl ?_
              rw [rzP_hi _ _ _ _ (by omega)]
              refine V_iconst C dX9_raise_63 ?_
              refine V_icmp_ne C 94 dX9_raise_64 (by decide) (by omega) (by omega) (fun z64 => ?_) (fun z64 => ?_)
              · refine V_iinc C dX9_raise_94 rfl rfl (by decide) ?_
                refine V_goto C 49 dX9_raise_97 (by decide) ?_
                first | (have hq := hyes; exact h9) | (rw [show ((j + 1 : Nat) : Int) = (j : Int) + 1 from rfl, rzP_no (by omega)] at h9 ; exact h9)
              · refine V_aload_n C dX9_raise_67 rfl ?_
                refine V_iload C dX9_raise_68 rfl ?_
                refine V_iconst C dX9_raise_70 ?_
                refine V_callVD (nA := 2) C dX9_raise_71 (m_of C.gp hM (by omega) 2 (by decide) rfl) gX9_raise_X9_of rfl o9 rfl (by decide +kernel) rfl (by decide) (by decide) (Nat.le_of_ble_eq_true rfl) ⟨by omega, by omega⟩ rfl ?_
                rw [rzP_hi _ _ _ _ (by omega)]
                refine V_iload_n C dX9_raise_74 rfl ?_
                refine V_icmp_le C 94 dX9_raise_75 (by decide) (by omega) (by omega) (fun z75 => ?_) (fun z75 => ?_)
                · refine V_iinc C dX9_raise_94 rfl rfl (by decide) ?_
                  refine V_goto C 49 dX9_raise_97 (by decide) ?_
                  first | (have hq := hyes; exact h9) | (rw [show ((j + 1 : Nat) : Int) = (j : Int) + 1 from rfl, rzP_no (by omega)] at h9 ; exact h9)
                · refine V_aload_n C dX9_raise_78 rfl ?_
                  refine V_iload C dX9_raise_79 rfl ?_
                  refine V_iconst C dX9_raise_81 ?_
                  refine V_aload_n C dX9_raise_82 rfl ?_
                  refine V_iload C dX9_raise_83 rfl ?_
                  refine V_iconst C dX9_raise_85 ?_
                  refine V_callVD (nA := 2) C dX9_raise_86 (m_of C.gp hM (by omega) 2 (by decide) rfl) gX9_raise_X9_of rfl o9 rfl (by decide +kernel) rfl (by decide) (by decide) (Nat.le_of_ble_eq_true rfl) ⟨by omega, by omega⟩ rfl ?_
                  rw [rzP_hi _ _ _ _ (by omega)]
                  refine V_iconst C dX9_raise_89 ?_
                  refine V_isub C dX9_raise_90 ?_
                  refine V_callVD (nA := 3) C dX9_raise_91 (m_puts C.gp hM (by omega) 2 (by decide) rfl) gX9_raise_X9_puts rfl o9 rfl (by decide +kernel) rfl (by decide) (by decide) (Nat.le_of_ble_eq_true rfl) ⟨by omega, by omega⟩ rfl ?_
                  rw [rzP_yes (by omega) (by omega)]
                  have hyes := True.intro
                  refine V_iinc C dX9_raise_94 rfl rfl (by decide) ?_
                  refine V_goto C 49 dX9_raise_97 (by decide) ?_
                  first | (have hq := hyes; exact h9) | (rw [show ((j + 1 : Nat) : Int) = (j : Int) + 1 from rfl, rzP_no (by omega)] at h9 ; exact h9)
        refine V_istore_n C dX9_raise_38 rfl (by decide) ?_
        refine V_aload_n C dX9_raise_39 rfl ?_
        refine V_iload_n C dX9_raise_40 rfl ?_
        refine V_iconst C dX9_raise_41 ?_
        refine V_callVD (nA := 2) C dX9_raise_42 (m_of C.gp hM (by omega) 2 (by decide) rfl) gX9_raise_X9_of rfl o9 rfl (by decide +kernel) rfl (by decide) (by decide) (Nat.le_of_ble_eq_true rfl) ⟨by omega, by omega⟩ rfl ?_
        refine V_istore_n C dX9_raise_45 rfl (by decide) ?_
        refine V_iconst C dX9_raise_46 ?_
        refine V_istore C dX9_raise_47 rfl (by decide) ?_
        have h := loop 32 0 (by omega)
        rw [show ((0 : Nat) : Int) = 0 from rfl, rzP_0] at h
        exact h
      · rw [show rzF (trT mu r) (mu (r + 1) 2) x = 2 by unfold rzF; (repeat' split) <;> omega, if_neg (by decide), if_neg (by decide)] at E
        refine V_aload_n C dX9_raise_23 rfl ?_
        refine V_iconst C dX9_raise_24 ?_
        refine V_callVD (nA := 1) C dX9_raise_25 (m_fails C.gp hM) gX9_raise_X9_fails rfl o9 rfl (by decide +kernel) rfl (by decide) (by decide) (Nat.le_of_ble_eq_true rfl) ⟨by omega, by omega⟩ rfl ?_
        refine V_ireturn C E dX9_raise_28 (by omega) (by omega) ?_
        exact Dt_rfl
    · exact absurd z0 (by decide)
  · rw [show rzF (trT mu r) (mu (r + 1) 2) x = 1 by unfold rzF; (repeat' split) <;> omega, if_neg (by decide), if_neg (by decide)] at E
    rw [inI_0 hb]
    refine V_if_ne C 14 dX9_raise_5 (by decide) (by omega) (fun z0 => ?_) (fun z0 => ?_)
    · exact absurd rfl z0
    · refine V_aload_n C dX9_raise_8 rfl ?_
      refine V_iconst C dX9_raise_9 ?_
      refine V_callVD (nA := 1) C dX9_raise_10 (m_fails C.gp hM) gX9_raise_X9_fails rfl o9 rfl (by decide +kernel) rfl (by decide) (by decide) (Nat.le_of_ble_eq_true rfl) ⟨by omega, by omega⟩ rfl ?_
      refine V_ireturn C E dX9_raise_13 (by omega) (by omega) ?_
      exact Dt_rfl
set_option maxRecDepth 20000 in
theorem ggX9_moveTab_X9_isPane : GoodIn wsX9_moveTab wsX9_isPane := goodIn_r _ [6, 1, 7, 8, 5, 9, 53, 54, 55, 56, 57, 58, 59, 60, 61, 62, 63, 64, 65, 66, 67, 68, 69, 70, 71, 72, 73, 74, 75, 76] (by decide +kernel) (by decide +kernel)
set_option maxRecDepth 20000 in
theorem gX9_moveTab_X9_isPane : GoodIn wsX9_moveTab (wsV RX9 156 RX9 yX9_isPane wsX9_isPane) := goodIn_app (goodIn_of _ (by decide +kernel)) ggX9_moveTab_X9_isPane
set_option maxRecDepth 20000 in
theorem ggX9_moveTab_X9_fails : GoodIn wsX9_moveTab wsX9_fails := goodIn_r _ [13, 14, 53, 54, 55, 56, 57, 58, 59, 60, 61, 62, 63, 64, 65, 66, 67, 68, 69, 70, 71, 72, 73, 74, 75, 76] (by decide +kernel) (by decide +kernel)
set_option maxRecDepth 20000 in
theorem gX9_moveTab_X9_fails : GoodIn wsX9_moveTab (wsV RX9 147 RX9 yX9_fails wsX9_fails) := goodIn_app (goodIn_of _ (by decide +kernel)) ggX9_moveTab_X9_fails
set_option maxRecDepth 20000 in
theorem ggX9_moveTab_X9_stateOf : GoodIn wsX9_moveTab wsX9_stateOf := goodIn_r _ [18, 19, 20, 21, 5, 22, 1, 23, 24, 25, 26, 53, 54, 55, 56, 57, 58, 59, 60, 61, 62, 63, 64, 65, 66, 67, 68, 69, 70, 71, 72, 73, 74, 75, 76] (by decide +kernel) (by decide +kernel)
set_option maxRecDepth 20000 in
theorem gX9_moveTab_X9_stateOf : GoodIn wsX9_moveTab (wsV RX9 159 RX9 yX9_stateOf wsX9_stateOf) := goodIn_app (goodIn_of _ (by decide +kernel)) ggX9_moveTab_X9_stateOf
set_option maxRecDepth 20000 in
theorem ggX9_moveTab_X9_groupOf : GoodIn wsX9_moveTab wsX9_groupOf := goodIn_r _ [22, 1, 53, 54, 55, 56, 57, 58, 59, 60, 61, 62, 63, 64, 65, 66, 67, 68, 69, 70, 71, 72, 73, 74, 75, 76] (by decide +kernel) (by decide +kernel)
set_option maxRecDepth 20000 in
theorem gX9_moveTab_X9_groupOf : GoodIn wsX9_moveTab (wsV RX9 85 RX9 yX9_groupOf wsX9_groupOf) := goodIn_app (goodIn_of _ (by decide +kernel)) ggX9_moveTab_X9_groupOf
set_option maxRecDepth 20000 in
theorem ggX9_moveTab_X9_tabs : GoodIn wsX9_moveTab wsX9_tabs := goodIn_r _ [30, 1, 19, 20, 21, 5, 22, 53, 54, 55, 56, 57, 58, 59, 60, 61, 62, 63, 64, 65, 66, 67, 68, 69, 70, 71, 72, 73, 74, 75, 76] (by decide +kernel) (by decide +kernel)
set_option maxRecDepth 20000 in
theorem gX9_moveTab_X9_tabs : GoodIn wsX9_moveTab (wsV RX9 135 RX9 yX9_tabs wsX9_tabs) := goodIn_app (goodIn_of _ (by decide +kernel)) ggX9_moveTab_X9_tabs
set_option maxRecDepth 20000 in
theorem ggX9_moveTab_X9_in : GoodIn wsX9_moveTab wsX9_in := goodIn_r _ [9] (by decide +kernel) (by decide +kernel)
set_option maxRecDepth 20000 in
theorem gX9_moveTab_X9_in : GoodIn wsX9_moveTab (va_wsS RX9 73 yX9_in wsX9_in) := goodIn_app (goodIn_of _ (by decide +kernel)) ggX9_moveTab_X9_in
set_option maxRecDepth 20000 in
theorem ggX9_moveTab_X9_hold : GoodIn wsX9_moveTab wsX9_hold := goodIn_r _ [34, 35, 1, 36, 37, 5, 38, 53, 54, 55, 56, 57, 58, 59, 60, 61, 62, 63, 64, 65, 66, 67, 68, 69, 70, 71, 72, 73, 74, 75, 76] (by decide +kernel) (by decide +kernel)
set_option maxRecDepth 20000 in
theorem gX9_moveTab_X9_hold : GoodIn wsX9_moveTab (wsV RX9 194 RX9 yX9_hold wsX9_hold) := goodIn_app (goodIn_of _ (by decide +kernel)) ggX9_moveTab_X9_hold
set_option maxRecDepth 20000 in
theorem ggX9_moveTab_X9_placeOf : GoodIn wsX9_moveTab wsX9_placeOf := goodIn_r _ [42, 1, 53, 54, 55, 56, 57, 58, 59, 60, 61, 62, 63, 64, 65, 66, 67, 68, 69, 70, 71, 72, 73, 74, 75, 76] (by decide +kernel) (by decide +kernel)
set_option maxRecDepth 20000 in
theorem gX9_moveTab_X9_placeOf : GoodIn wsX9_moveTab (wsV RX9 88 RX9 yX9_placeOf wsX9_placeOf) := goodIn_app (goodIn_of _ (by decide +kernel)) ggX9_moveTab_X9_placeOf
set_option maxRecDepth 20000 in
theorem ggX9_moveTab_X9_ends : GoodIn wsX9_moveTab wsX9_ends := goodIn_r _ [46, 47, 48, 35, 49, 50, 51, 5, 52, 14, 53, 54, 55, 56, 57, 58, 59, 60, 61, 62, 63, 64, 65, 66, 67, 68, 69, 70, 71, 72, 73, 74, 75, 76] (by decide +kernel) (by decide +kernel)
set_option maxRecDepth 20000 in
theorem gX9_moveTab_X9_ends : GoodIn wsX9_moveTab (wsV RX9 153 RX9 yX9_ends wsX9_ends) := goodIn_app (goodIn_of _ (by decide +kernel)) ggX9_moveTab_X9_ends
theorem dX9_moveTab_0 : decode cX9_moveTab 0 = .ok (.aload_n 0, 1) := by decide +kernel
theorem dX9_moveTab_1 : decode cX9_moveTab 1 = .ok (.iload_n 1, 1) := by decide +kernel
theorem dX9_moveTab_2 : decode cX9_moveTab 2 = .ok (.invokevirtual 156, 3) := by decide +kernel
theorem dX9_moveTab_5 : decode cX9_moveTab 5 = .ok (.ifCond .ne 9, 3) := by decide +kernel
theorem dX9_moveTab_8 : decode cX9_moveTab 8 = .ok (.aload_n 0, 1) := by decide +kernel
theorem dX9_moveTab_9 : decode cX9_moveTab 9 = .ok (.iconst 1, 1) := by decide +kernel
theorem dX9_moveTab_10 : decode cX9_moveTab 10 = .ok (.invokevirtual 147, 3) := by decide +kernel
theorem dX9_moveTab_13 : decode cX9_moveTab 13 = .ok (.ireturn, 1) := by decide +kernel
theorem dX9_moveTab_14 : decode cX9_moveTab 14 = .ok (.aload_n 0, 1) := by decide +kernel
theorem dX9_moveTab_15 : decode cX9_moveTab 15 = .ok (.iload_n 1, 1) := by decide +kernel
theorem dX9_moveTab_16 : decode cX9_moveTab 16 = .ok (.invokevirtual 159, 3) := by decide +kernel
theorem dX9_moveTab_19 : decode cX9_moveTab 19 = .ok (.ifCond .ne 9, 3) := by decide +kernel
theorem dX9_moveTab_22 : decode cX9_moveTab 22 = .ok (.aload_n 0, 1) := by decide +kernel
theorem dX9_moveTab_23 : decode cX9_moveTab 23 = .ok (.iconst 2, 1) := by decide +kernel
theorem dX9_moveTab_24 : decode cX9_moveTab 24 = .ok (.invokevirtual 147, 3) := by decide +kernel
theorem dX9_moveTab_27 : decode cX9_moveTab 27 = .ok (.ireturn, 1) := by decide +kernel
theorem dX9_moveTab_28 : decode cX9_moveTab 28 = .ok (.aload_n 0, 1) := by decide +kernel
theorem dX9_moveTab_29 : decode cX9_moveTab 29 = .ok (.iload_n 1, 1) := by decide +kernel
theorem dX9_moveTab_30 : decode cX9_moveTab 30 = .ok (.invokevirtual 85, 3) := by decide +kernel
theorem dX9_moveTab_33 : decode cX9_moveTab 33 = .ok (.istore_n 3, 1) := by decide +kernel
theorem dX9_moveTab_34 : decode cX9_moveTab 34 = .ok (.iload_n 2, 1) := by decide +kernel
theorem dX9_moveTab_35 : decode cX9_moveTab 35 = .ok (.iconst 0, 1) := by decide +kernel
theorem dX9_moveTab_36 : decode cX9_moveTab 36 = .ok (.aload_n 0, 1) := by decide +kernel
theorem dX9_moveTab_37 : decode cX9_moveTab 37 = .ok (.iload_n 3, 1) := by decide +kernel
theorem dX9_moveTab_38 : decode cX9_moveTab 38 = .ok (.invokevirtual 135, 3) := by decide +kernel
theorem dX9_moveTab_41 : decode cX9_moveTab 41 = .ok (.iconst 1, 1) := by decide +kernel
theorem dX9_moveTab_42 : decode cX9_moveTab 42 = .ok (.isub, 1) := by decide +kernel
theorem dX9_moveTab_43 : decode cX9_moveTab 43 = .ok (.invokestatic 73, 3) := by decide +kernel
theorem dX9_moveTab_46 : decode cX9_moveTab 46 = .ok (.ifCond .ne 9, 3) := by decide +kernel
theorem dX9_moveTab_49 : decode cX9_moveTab 49 = .ok (.aload_n 0, 1) := by decide +kernel
theorem dX9_moveTab_50 : decode cX9_moveTab 50 = .ok (.iconst 3, 1) := by decide +kernel
theorem dX9_moveTab_51 : decode cX9_moveTab 51 = .ok (.invokevirtual 147, 3) := by decide +kernel
theorem dX9_moveTab_54 : decode cX9_moveTab 54 = .ok (.ireturn, 1) := by decide +kernel
theorem dX9_moveTab_55 : decode cX9_moveTab 55 = .ok (.aload_n 0, 1) := by decide +kernel
theorem dX9_moveTab_56 : decode cX9_moveTab 56 = .ok (.invokevirtual 194, 3) := by decide +kernel
theorem dX9_moveTab_59 : decode cX9_moveTab 59 = .ok (.aload_n 0, 1) := by decide +kernel
theorem dX9_moveTab_60 : decode cX9_moveTab 60 = .ok (.iload_n 1, 1) := by decide +kernel
theorem dX9_moveTab_61 : decode cX9_moveTab 61 = .ok (.invokevirtual 88, 3) := by decide +kernel
theorem dX9_moveTab_64 : decode cX9_moveTab 64 = .ok (.istore 4, 2) := by decide +kernel
theorem dX9_moveTab_66 : decode cX9_moveTab 66 = .ok (.iconst 0, 1) := by decide +kernel
theorem dX9_moveTab_67 : decode cX9_moveTab 67 = .ok (.istore 5, 2) := by decide +kernel
theorem dX9_moveTab_69 : decode cX9_moveTab 69 = .ok (.iload 5, 2) := by decide +kernel
theorem dX9_moveTab_71 : decode cX9_moveTab 71 = .ok (.aload_n 0, 1) := by decide +kernel
theorem dX9_moveTab_72 : decode cX9_moveTab 72 = .ok (.getfield 7, 3) := by decide +kernel
theorem dX9_moveTab_75 : decode cX9_moveTab 75 = .ok (.iconst 2, 1) := by decide +kernel
theorem dX9_moveTab_76 : decode cX9_moveTab 76 = .ok (.iaload, 1) := by decide +kernel
theorem dX9_moveTab_77 : decode cX9_moveTab 77 = .ok (.if_icmp .ge 85, 3) := by decide +kernel
theorem dX9_moveTab_80 : decode cX9_moveTab 80 = .ok (.aload_n 0, 1) := by decide +kernel
theorem dX9_moveTab_81 : decode cX9_moveTab 81 = .ok (.iload 5, 2) := by decide +kernel
theorem dX9_moveTab_83 : decode cX9_moveTab 83 = .ok (.invokevirtual 85, 3) := by decide +kernel
theorem dX9_moveTab_86 : decode cX9_moveTab 86 = .ok (.iload_n 3, 1) := by decide +kernel
theorem dX9_moveTab_87 : decode cX9_moveTab 87 = .ok (.if_icmp .ne 69, 3) := by decide +kernel
theorem dX9_moveTab_90 : decode cX9_moveTab 90 = .ok (.iload 5, 2) := by decide +kernel
theorem dX9_moveTab_92 : decode cX9_moveTab 92 = .ok (.iload_n 1, 1) := by decide +kernel
theorem dX9_moveTab_93 : decode cX9_moveTab 93 = .ok (.if_icmp .eq 63, 3) := by decide +kernel
theorem dX9_moveTab_96 : decode cX9_moveTab 96 = .ok (.aload_n 0, 1) := by decide +kernel
theorem dX9_moveTab_97 : decode cX9_moveTab 97 = .ok (.iload 5, 2) := by decide +kernel
theorem dX9_moveTab_99 : decode cX9_moveTab 99 = .ok (.invokevirtual 88, 3) := by decide +kernel
theorem dX9_moveTab_102 : decode cX9_moveTab 102 = .ok (.iload 4, 2) := by decide +kernel
theorem dX9_moveTab_104 : decode cX9_moveTab 104 = .ok (.if_icmp .le 14, 3) := by decide +kernel
theorem dX9_moveTab_107 : decode cX9_moveTab 107 = .ok (.aload_n 0, 1) := by decide +kernel
theorem dX9_moveTab_108 : decode cX9_moveTab 108 = .ok (.iload 5, 2) := by decide +kernel
theorem dX9_moveTab_110 : decode cX9_moveTab 110 = .ok (.invokevirtual 88, 3) := by decide +kernel
theorem dX9_moveTab_113 : decode cX9_moveTab 113 = .ok (.iconst 1, 1) := by decide +kernel
theorem dX9_moveTab_114 : decode cX9_moveTab 114 = .ok (.isub, 1) := by decide +kernel
theorem dX9_moveTab_115 : decode cX9_moveTab 115 = .ok (.goto 9, 3) := by decide +kernel
theorem dX9_moveTab_118 : decode cX9_moveTab 118 = .ok (.aload_n 0, 1) := by decide +kernel
theorem dX9_moveTab_119 : decode cX9_moveTab 119 = .ok (.iload 5, 2) := by decide +kernel
theorem dX9_moveTab_121 : decode cX9_moveTab 121 = .ok (.invokevirtual 88, 3) := by decide +kernel
theorem dX9_moveTab_124 : decode cX9_moveTab 124 = .ok (.istore 6, 2) := by decide +kernel
theorem dX9_moveTab_126 : decode cX9_moveTab 126 = .ok (.aload_n 0, 1) := by decide +kernel
theorem dX9_moveTab_127 : decode cX9_moveTab 127 = .ok (.getfield 7, 3) := by decide +kernel
theorem dX9_moveTab_130 : decode cX9_moveTab 130 = .ok (.sipush 323, 3) := by decide +kernel
theorem dX9_moveTab_133 : decode cX9_moveTab 133 = .ok (.iconst 2, 1) := by decide +kernel
theorem dX9_moveTab_134 : decode cX9_moveTab 134 = .ok (.iload 5, 2) := by decide +kernel
theorem dX9_moveTab_136 : decode cX9_moveTab 136 = .ok (.imul, 1) := by decide +kernel
theorem dX9_moveTab_137 : decode cX9_moveTab 137 = .ok (.iadd, 1) := by decide +kernel
theorem dX9_moveTab_138 : decode cX9_moveTab 138 = .ok (.iconst 1, 1) := by decide +kernel
theorem dX9_moveTab_139 : decode cX9_moveTab 139 = .ok (.iadd, 1) := by decide +kernel
theorem dX9_moveTab_140 : decode cX9_moveTab 140 = .ok (.iload 6, 2) := by decide +kernel
theorem dX9_moveTab_142 : decode cX9_moveTab 142 = .ok (.iload_n 2, 1) := by decide +kernel
theorem dX9_moveTab_143 : decode cX9_moveTab 143 = .ok (.if_icmp .lt 10, 3) := by decide +kernel
theorem dX9_moveTab_146 : decode cX9_moveTab 146 = .ok (.iload 6, 2) := by decide +kernel
theorem dX9_moveTab_148 : decode cX9_moveTab 148 = .ok (.iconst 1, 1) := by decide +kernel
theorem dX9_moveTab_149 : decode cX9_moveTab 149 = .ok (.iadd, 1) := by decide +kernel
theorem dX9_moveTab_150 : decode cX9_moveTab 150 = .ok (.goto 5, 3) := by decide +kernel
theorem dX9_moveTab_153 : decode cX9_moveTab 153 = .ok (.iload 6, 2) := by decide +kernel
theorem dX9_moveTab_155 : decode cX9_moveTab 155 = .ok (.iastore, 1) := by decide +kernel
theorem dX9_moveTab_156 : decode cX9_moveTab 156 = .ok (.iinc 5 1, 3) := by decide +kernel
theorem dX9_moveTab_159 : decode cX9_moveTab 159 = .ok (.goto (-90), 3) := by decide +kernel
theorem dX9_moveTab_162 : decode cX9_moveTab 162 = .ok (.aload_n 0, 1) := by decide +kernel
theorem dX9_moveTab_163 : decode cX9_moveTab 163 = .ok (.getfield 7, 3) := by decide +kernel
theorem dX9_moveTab_166 : decode cX9_moveTab 166 = .ok (.sipush 323, 3) := by decide +kernel
theorem dX9_moveTab_169 : decode cX9_moveTab 169 = .ok (.iconst 2, 1) := by decide +kernel
theorem dX9_moveTab_170 : decode cX9_moveTab 170 = .ok (.iload_n 1, 1) := by decide +kernel
theorem dX9_moveTab_171 : decode cX9_moveTab 171 = .ok (.imul, 1) := by decide +kernel
theorem dX9_moveTab_172 : decode cX9_moveTab 172 = .ok (.iadd, 1) := by decide +kernel
theorem dX9_moveTab_173 : decode cX9_moveTab 173 = .ok (.iconst 1, 1) := by decide +kernel
theorem dX9_moveTab_174 : decode cX9_moveTab 174 = .ok (.iadd, 1) := by decide +kernel
theorem dX9_moveTab_175 : decode cX9_moveTab 175 = .ok (.iload_n 2, 1) := by decide +kernel
theorem dX9_moveTab_176 : decode cX9_moveTab 176 = .ok (.iastore, 1) := by decide +kernel
theorem dX9_moveTab_177 : decode cX9_moveTab 177 = .ok (.aload_n 0, 1) := by decide +kernel
theorem dX9_moveTab_178 : decode cX9_moveTab 178 = .ok (.iload 4, 2) := by decide +kernel
theorem dX9_moveTab_180 : decode cX9_moveTab 180 = .ok (.invokevirtual 153, 3) := by decide +kernel
theorem dX9_moveTab_183 : decode cX9_moveTab 183 = .ok (.ireturn, 1) := by decide +kernel
theorem hin_X9_moveTab_X9 : ∀ w ∈ wsX90, w ∈ wsX9_moveTab := by decide +kernel
theorem lk_X9_moveTab_7 : Cond.fieldLink RX9 7 RX9 "s" "[I" ∈ wsX9_moveTab := by decide +kernel
def mtF (T : Mem) (P p y : Int) : Int := if ¬ (0 ≤ p ∧ p ≤ P - 1) then 1 else if sxT T p = 0 then 2 else if 0 ≤ y ∧ y ≤ tbT T P (T 9 p) - 1 then 0 else 3
theorem p_moveTab (hG : GP G) (hM : MoS S r) (hW : MWo mu r) {x y : Int} (hx : -2147483648 ≤ x ∧ x ≤ 2147483647) (hy : -2147483648 ≤ y ∧ y ≤ 2147483647) : Ct G l yX9_moveTab wsX9_moveTab 2 0 0 [.ref r, .int (I32 x), .int (I32 y)] S n mu la (Dt (some (.int (I32 (if mtF (trT mu r) (mu (r + 1) 2) x y = 0 then trT mu r 10 x else 0)))) S n (if mtF (trT mu r) (mu (r + 1) 2) x y = 0 then enM (ptT (hdM mu r) r (mvT (trT mu r) (mu (r + 1) 2) x y)) r else up mu r 7 (mtF (trT mu r) (mu (r + 1) 2) x y)) la) := by
  have o9 := hM.1
  obtain ⟨w1, w2, w3, w4, w5⟩ := hW
  have e2 : hdM mu r (r + 1) 2 = mu (r + 1) 2 := hdM_1 mu r 2
  refine Ct.ofV (cc := cX9_moveTab) (nL := 7) (ret := (some .int)) [some (.ref r), some (.int (I32 x)), some (.int (I32 y)), none, none, none, none] hG (by decide) rfl (Nat.le_of_ble_eq_true rfl) rfl ?_
  rintro X rfl rfl C hcl hsl E
  refine V_aload_n C dX9_moveTab_0 rfl ?_
  refine V_iload_n C dX9_moveTab_1 rfl ?_
  refine V_callVD (nA := 1) C dX9_moveTab_2 (m_isPane C.gp hM w3 hx) gX9_moveTab_X9_isPane rfl o9 rfl (by decide +kernel) rfl (by decide) (by decide) (Nat.le_of_ble_eq_true rfl) ⟨by omega, by omega⟩ rfl ?_
  by_cases hb : 0 ≤ x ∧ x ≤ mu (r + 1) 2 - 1
  · skip
    rw [inI_1 hb]
    have bs := sxT_b (trT mu r) x
    have b9 := w2.g (i := x) (by omega)
    refine V_if_ne C 14 dX9_moveTab_5 (by decide) (by omega) (fun z0 => ?_) (fun z0 => ?_)
    · refine V_aload_n C dX9_moveTab_14 rfl ?_
      refine V_iload_n C dX9_moveTab_15 rfl ?_
      have h9 := m_stateOf (l := xL X) (n := n) (la := la) (mu := mu) (T := trT mu r) C.gp hM w2 (by omega) (x := x) (by omega)
      rw [pt_self] at h9
      refine V_callVD (nA := 1) C dX9_moveTab_16 h9 gX9_moveTab_X9_stateOf rfl o9 rfl (by decide +kernel) rfl (by decide) (by decide) (Nat.le_of_ble_eq_true rfl) ⟨by omega, by omega⟩ rfl ?_
      refine V_if_ne C 28 dX9_moveTab_19 (by decide) (by omega) (fun z1 => ?_) (fun z1 => ?_)
      · have bg := sxT_g z1
        have h8 := m_groupOf (l := xL X) (n := n) (la := la) (mu := mu) (T := trT mu r) C.gp hM (x := x) (by omega)
        have h7 := m_tabs (l := xL X) (n := n) (la := la) (mu := mu) (T := trT mu r) C.gp hM w2 (by omega) w3 (x := trT mu r 9 x) (by omega)
        have bt := tbT_b (trT mu r) w3 (trT mu r 9 x)
        rw [pt_self] at h8 h7
        refine V_aload_n C dX9_moveTab_28 rfl ?_
        refine V_iload_n C dX9_moveTab_29 rfl ?_
        refine V_callVD (nA := 1) C dX9_moveTab_30 h8 gX9_moveTab_X9_groupOf rfl o9 rfl (by decide +kernel) rfl (by decide) (by decide) (Nat.le_of_ble_eq_true rfl) ⟨by omega, by omega⟩ rfl ?_
        refine V_istore_n C dX9_moveTab_33 rfl (by decide) ?_
        refine V_iload_n C dX9_moveTab_34 rfl ?_
        refine V_iconst C dX9_moveTab_35 ?_
        refine V_aload_n C dX9_moveTab_36 rfl ?_
        refine V_iload_n C dX9_moveTab_37 rfl ?_
        refine V_callVD (nA := 1) C dX9_moveTab_38 h7 gX9_moveTab_X9_tabs rfl o9 rfl (by decide +kernel) rfl (by decide) (by decide) (Nat.le_of_ble_eq_true rfl) ⟨by omega, by omega⟩ rfl ?_
        refine V_iconst C dX9_moveTab_41 ?_
        refine V_isub C dX9_moveTab_42 ?_
        refine V_callSD (nA := 3) C dX9_moveTab_43 (m_in C.gp hy (by omega) (by omega)) gX9_moveTab_X9_in rfl (by decide +kernel) rfl (by decide) (by decide) (Nat.le_of_ble_eq_true rfl) ⟨by omega, by omega⟩ rfl ?_
        by_cases hc : 0 ≤ y ∧ y ≤ tbT (trT mu r) (mu (r + 1) 2) (trT mu r 9 x) - 1
        · rw [show mtF (trT mu r) (mu (r + 1) 2) x y = 0 by unfold mtF; (repeat' split) <;> omega, if_pos rfl, if_pos rfl] at E
          rw [inI_1 hc]
          refine V_if_ne C 55 dX9_moveTab_46 (by decide) (by omega) (fun z2 => ?_) (fun z2 => ?_)
          · refine V_aload_n C dX9_moveTab_55 rfl ?_
            refine V_callVD (nA := 0) C dX9_moveTab_56 (m_hold C.gp hM) gX9_moveTab_X9_hold rfl o9 rfl (by decide +kernel) rfl (by decide) (by decide) (Nat.le_of_ble_eq_true rfl) ⟨by omega, by omega⟩ rfl ?_
            rw [show cpF mu (r + 1) (r + 3) 1639 = ptT (hdM mu r) r (trT mu r) from hdM_pt mu r]
            generalize trT mu r = T at w2 b9 bg bt hc E
            have b10 := w2.q 10 (by decide) (i := x) (by omega)
            unfold mvT at E
            have loop : ∀ (d j : Nat) (w6 : Option Value), j + d = (mu (r + 1) 2).toNat → V X 69 [some (.ref r), some (.int (I32 x)), some (.int (I32 y)), some (.int (I32 (T 9 x))), some (.int (I32 (T 10 x))), some (.int (I32 (j : Int))), w6] [] S n (ptT (hdM mu r) r (mvP T (T 9 x) x (T 10 x) y j)) la 0 0 := by
              intro d
              induction d with
              | zero =>
                intro j w6 h1
                have hj : j = (mu (r + 1) 2).toNat := by omega
                rw [← Int.toNat_of_nonneg w3.1, ← hj] at E
                refine V_iload C dX9_moveTab_69 rfl ?_
                refine V_aload_n C dX9_moveTab_71 rfl ?_
                refine V_getR C 0 dX9_moveTab_72 o9 rfl hin_X9_moveTab_X9 (by decide) lk_X9_moveTab_7 rfl rfl ?_
                refine V_iconst C dX9_moveTab_75 ?_
                refine V_ialdJ C dX9_moveTab_76 hM.2.1 (by first | assumption | decide) (by omega) ((pt_lo (by decide)).trans e2) ?_
                refine V_icmp_ge C 162 dX9_moveTab_77 (by decide) (by omega) (by omega) (fun z77 => ?_) (fun z77 => ?_)
                · refine V_aload_n C dX9_moveTab_162 rfl ?_
                  refine V_getR C 0 dX9_moveTab_163 o9 rfl hin_X9_moveTab_X9 (by decide) lk_X9_moveTab_7 rfl rfl ?_
                  refine V_sipush C dX9_moveTab_166 (by decide +kernel) ?_
                  refine V_iconst C dX9_moveTab_169 ?_
                  refine V_iload_n C dX9_moveTab_170 rfl ?_
                  refine V_imul C dX9_moveTab_171 ?_
                  refine V_iadd C dX9_moveTab_172 ?_
                  refine V_iconst C dX9_moveTab_173 ?_
                  refine V_iadd C dX9_moveTab_174 ?_
                  refine V_iload_n C dX9_moveTab_175 rfl ?_
                  refine V_iastJ C dX9_moveTab_176 hM.2.1 (by first | assumption | decide) (by omega) (ptu_p (by omega)) ?_
                  refine V_aload_n C dX9_moveTab_177 rfl ?_
                  refine V_iload C dX9_moveTab_178 rfl ?_
                  refine V_callVD (nA := 1) C dX9_moveTab_180 (m_ends C.gp hM (by rw [pt_r, hdM_r]; exact w4)) gX9_moveTab_X9_ends rfl o9 rfl (by decide +kernel) rfl (by decide) (by decide) (Nat.le_of_ble_eq_true rfl) ⟨by omega, by omega⟩ rfl ?_
                  refine V_ireturn C E dX9_moveTab_183 (by omega) (by omega) ?_
                  exact Dt_rfl
                · exact absurd z77 (by first | omega | decide)
              | succ d ih =>
                intro j w6 h1
                have h9 := fun w => ih (j + 1) w (by omega)
                have c9 := w2.g (i := (j : Int)) (by omega)
                have c10 := w2.q 10 (by decide) (i := (j : Int)) (by omega)
                refine V_iload C dX9_moveTab_69 rfl ?_
                refine V_aload_n C dX9_moveTab_71 rfl ?_
                refine V_getR C 0 dX9_moveTab_72 o9 rfl hin_X9_moveTab_X9 (by decide) lk_X9_moveTab_7 rfl rfl ?_
                refine V_iconst C dX9_moveTab_75 ?_
                refine V_ialdJ C dX9_moveTab_76 hM.2.1 (by first | assumption | decide) (by omega) ((pt_lo (by decide)).trans e2) ?_
                refine V_icmp_ge C 162 dX9_moveTab_77 (by decide) (by omega) (by omega) (fun z77 => ?_) (fun z77 => ?_)
                · exact absurd z77 (by first | omega | decide)
                · refine V_aload_n C dX9_moveTab_80 rfl ?_
                  refine V_iload C dX9_moveTab_81 rfl ?_
                  refine V_callVD (nA := 1) C dX9_moveTab_83 (m_groupOf C.gp hM (by omega)) gX9_moveTab_X9_groupOf rfl o9 rfl (by decide +kernel) rfl (by decide) (by decide) (Nat.le_of_ble_eq_true rfl) ⟨by omega, by omega⟩ rfl ?_
                  rw [mvP_hi _ _ _ _ _ _ _ (by omega)]
                  refine V_iload_n C dX9_moveTab_86 rfl ?_
                  refine V_icmp_ne C 156 dX9_moveTab_87 (by decide) (by omega) (by omega) (fun z87 => ?_) (fun z87 => ?_)
                  · refine V_iinc C dX9_moveTab_156 rfl rfl (by decide) ?_
                    refine V_goto C 69 dX9_moveTab_159 (by decide) ?_
                    first | (have hq := hyes; exact h9 _) | (have h9 := h9 w6; rw [show ((j + 1 : Nat) : Int) = (j : Int) + 1 from rfl, mvP_no (by omega)] at h9 ; exact h9)
                  · refine V_iload C dX9_moveTab_90 rfl ?_
                    refine V_iload_n C dX9_moveTab_92 rfl ?_
                    refine V_icmp_eq C 156 dX9_moveTab_93 (by decide) (by omega) (by omega) (fun z93 => ?_) (fun z93 => ?_)
                    · refine V_iinc C dX9_moveTab_156 rfl rfl (by decide) ?_
                      refine V_goto C 69 dX9_moveTab_159 (by decide) ?_
                      first | (have hq := hyes; exact h9 _) | (have h9 := h9 w6; rw [show ((j + 1 : Nat) : Int) = (j : Int) + 1 from rfl, mvP_no (by omega)] at h9 ; exact h9)
                    · refine V_aload_n C dX9_moveTab_96 rfl ?_
                      refine V_iload C dX9_moveTab_97 rfl ?_
                      refine V_callVD (nA := 1) C dX9_moveTab_99 (m_placeOf C.gp hM (by omega)) gX9_moveTab_X9_placeOf rfl o9 rfl (by decide +kernel) rfl (by decide) (by decide) (Nat.le_of_ble_eq_true rfl) ⟨by omega, by omega⟩ rfl ?_
                      rw [mvP_hi _ _ _ _ _ _ _ (by omega)]
                      refine V_iload C dX9_moveTab_102 rfl ?_
                      refine V_icmp_le C 118 dX9_moveTab_104 (by decide) (by omega) (by omega) (fun z104 => ?_) (fun z104 => ?_)
                      · refine V_aload_n C dX9_moveTab_118 rfl ?_
                        refine V_iload C dX9_moveTab_119 rfl ?_
                        refine V_callVD (nA := 1) C dX9_moveTab_121 (m_placeOf C.gp hM (by omega)) gX9_moveTab_X9_placeOf rfl o9 rfl (by decide +kernel) rfl (by decide) (by decide) (Nat.le_of_ble_eq_true rfl) ⟨by omega, by omega⟩ rfl ?_
                        rw [mvP_hi _ _ _ _ _ _ _ (by omega)]
                        refine V_istore C dX9_moveTab_124 rfl (by decide) ?_
                        refine V_aload_n C dX9_moveTab_126 rfl ?_
                        refine V_getR C 0 dX9_moveTab_127 o9 rfl hin_X9_moveTab_X9 (by decide) lk_X9_moveTab_7 rfl rfl ?_
                        refine V_sipush C dX9_moveTab_130 (by decide +kernel) ?_
                        refine V_iconst C dX9_moveTab_133 ?_
                        refine V_iload C dX9_moveTab_134 rfl ?_
                        refine V_imul C dX9_moveTab_136 ?_
                        refine V_iadd C dX9_moveTab_137 ?_
                        refine V_iconst C dX9_moveTab_138 ?_
                        refine V_iadd C dX9_moveTab_139 ?_
                        refine V_iload C dX9_moveTab_140 rfl ?_
                        refine V_iload_n C dX9_moveTab_142 rfl ?_
                        refine V_icmp_lt C 153 dX9_moveTab_143 (by decide) (by omega) (by omega) (fun z143 => ?_) (fun z143 => ?_)
                        · refine V_iload C dX9_moveTab_153 rfl ?_
                          refine V_iastJ C dX9_moveTab_155 hM.2.1 (by first | assumption | decide) (by omega) (ptu_p (by omega)) ?_
                          rw [mvP_yes (by omega) (by omega) (by unfold mvI; (repeat' split) <;> omega)]
                          have hyes := True.intro
                          refine V_iinc C dX9_moveTab_156 rfl rfl (by decide) ?_
                          refine V_goto C 69 dX9_moveTab_159 (by decide) ?_
                          first | (have hq := hyes; exact h9 _) | (have h9 := h9 w6; rw [show ((j + 1 : Nat) : Int) = (j : Int) + 1 from rfl, mvP_no (by omega)] at h9 ; exact h9)
                        · refine V_iload C dX9_moveTab_146 rfl ?_
                          refine V_iconst C dX9_moveTab_148 ?_
                          refine V_iadd C dX9_moveTab_149 ?_
                          refine V_goto C 155 dX9_moveTab_150 (by decide) ?_
                          refine V_iastJ C dX9_moveTab_155 hM.2.1 (by first | assumption | decide) (by omega) (ptu_p (by omega)) ?_
                          rw [mvP_yes (by omega) (by omega) (by unfold mvI; (repeat' split) <;> omega)]
                          have hyes := True.intro
                          refine V_iinc C dX9_moveTab_156 rfl rfl (by decide) ?_
                          refine V_goto C 69 dX9_moveTab_159 (by decide) ?_
                          first | (have hq := hyes; exact h9 _) | (have h9 := h9 w6; rw [show ((j + 1 : Nat) : Int) = (j : Int) + 1 from rfl, mvP_no (by omega)] at h9 ; exact h9)
                      · refine V_aload_n C dX9_moveTab_107 rfl ?_
                        refine V_iload C dX9_moveTab_108 rfl ?_
                        refine V_callVD (nA := 1) C dX9_moveTab_110 (m_placeOf C.gp hM (by omega)) gX9_moveTab_X9_placeOf rfl o9 rfl (by decide +kernel) rfl (by decide) (by decide) (Nat.le_of_ble_eq_true rfl) ⟨by omega, by omega⟩ rfl ?_
                        rw [mvP_hi _ _ _ _ _ _ _ (by omega)]
                        refine V_iconst C dX9_moveTab_113 ?_
                        refine V_isub C dX9_moveTab_114 ?_
                        refine V_goto C 124 dX9_moveTab_115 (by decide) ?_
                        refine V_istore C dX9_moveTab_124 rfl (by decide) ?_
                        refine V_aload_n C dX9_moveTab_126 rfl ?_
                        refine V_getR C 0 dX9_moveTab_127 o9 rfl hin_X9_moveTab_X9 (by decide) lk_X9_moveTab_7 rfl rfl ?_
                        refine V_sipush C dX9_moveTab_130 (by decide +kernel) ?_
                        refine V_iconst C dX9_moveTab_133 ?_
                        refine V_iload C dX9_moveTab_134 rfl ?_
                        refine V_imul C dX9_moveTab_136 ?_
                        refine V_iadd C dX9_moveTab_137 ?_
                        refine V_iconst C dX9_moveTab_138 ?_
                        refine V_iadd C dX9_moveTab_139 ?_
                        refine V_iload C dX9_moveTab_140 rfl ?_
                        refine V_iload_n C dX9_moveTab_142 rfl ?_
                        refine V_icmp_lt C 153 dX9_moveTab_143 (by decide) (by omega) (by omega) (fun z143 => ?_) (fun z143 => ?_)
                        · refine V_iload C dX9_moveTab_153 rfl ?_
                          refine V_iastJ C dX9_moveTab_155 hM.2.1 (by first | assumption | decide) (by omega) (ptu_p (by omega)) ?_
                          rw [mvP_yes (by omega) (by omega) (by unfold mvI; (repeat' split) <;> omega)]
                          have hyes := True.intro
                          refine V_iinc C dX9_moveTab_156 rfl rfl (by decide) ?_
                          refine V_goto C 69 dX9_moveTab_159 (by decide) ?_
                          first | (have hq := hyes; exact h9 _) | (have h9 := h9 w6; rw [show ((j + 1 : Nat) : Int) = (j : Int) + 1 from rfl, mvP_no (by omega)] at h9 ; exact h9)
                        · refine V_iload C dX9_moveTab_146 rfl ?_
                          refine V_iconst C dX9_moveTab_148 ?_
                          refine V_iadd C dX9_moveTab_149 ?_
                          refine V_goto C 155 dX9_moveTab_150 (by decide) ?_
                          refine V_iastJ C dX9_moveTab_155 hM.2.1 (by first | assumption | decide) (by omega) (ptu_p (by omega)) ?_
                          rw [mvP_yes (by omega) (by omega) (by unfold mvI; (repeat' split) <;> omega)]
                          have hyes := True.intro
                          refine V_iinc C dX9_moveTab_156 rfl rfl (by decide) ?_
                          refine V_goto C 69 dX9_moveTab_159 (by decide) ?_
                          first | (have hq := hyes; exact h9 _) | (have h9 := h9 w6; rw [show ((j + 1 : Nat) : Int) = (j : Int) + 1 from rfl, mvP_no (by omega)] at h9 ; exact h9)
            refine V_aload_n C dX9_moveTab_59 rfl ?_
            refine V_iload_n C dX9_moveTab_60 rfl ?_
            refine V_callVD (nA := 1) C dX9_moveTab_61 (m_placeOf C.gp hM (by omega)) gX9_moveTab_X9_placeOf rfl o9 rfl (by decide +kernel) rfl (by decide) (by decide) (Nat.le_of_ble_eq_true rfl) ⟨by omega, by omega⟩ rfl ?_
            refine V_istore C dX9_moveTab_64 rfl (by decide) ?_
            refine V_iconst C dX9_moveTab_66 ?_
            refine V_istore C dX9_moveTab_67 rfl (by decide) ?_
            have h := loop (mu (r + 1) 2).toNat 0 none (by omega)
            rw [show ((0 : Nat) : Int) = 0 from rfl, mvP_0] at h
            exact h
          · exact absurd z2 (by decide)
        · rw [show mtF (trT mu r) (mu (r + 1) 2) x y = 3 by unfold mtF; (repeat' split) <;> omega, if_neg (by decide), if_neg (by decide)] at E
          rw [inI_0 hc]
          refine V_if_ne C 55 dX9_moveTab_46 (by decide) (by omega) (fun z2 => ?_) (fun z2 => ?_)
          · exact absurd rfl z2
          · refine V_aload_n C dX9_moveTab_49 rfl ?_
            refine V_iconst C dX9_moveTab_50 ?_
            refine V_callVD (nA := 1) C dX9_moveTab_51 (m_fails C.gp hM) gX9_moveTab_X9_fails rfl o9 rfl (by decide +kernel) rfl (by decide) (by decide) (Nat.le_of_ble_eq_true rfl) ⟨by omega, by omega⟩ rfl ?_
            refine V_ireturn C E dX9_moveTab_54 (by omega) (by omega) ?_
            exact Dt_rfl
      · rw [show mtF (trT mu r) (mu (r + 1) 2) x y = 2 by unfold mtF; (repeat' split) <;> omega, if_neg (by decide), if_neg (by decide)] at E
        refine V_aload_n C dX9_moveTab_22 rfl ?_
        refine V_iconst C dX9_moveTab_23 ?_
        refine V_callVD (nA := 1) C dX9_moveTab_24 (m_fails C.gp hM) gX9_moveTab_X9_fails rfl o9 rfl (by decide +kernel) rfl (by decide) (by decide) (Nat.le_of_ble_eq_true rfl) ⟨by omega, by omega⟩ rfl ?_
        refine V_ireturn C E dX9_moveTab_27 (by omega) (by omega) ?_
        exact Dt_rfl
    · exact absurd z0 (by decide)
  · rw [show mtF (trT mu r) (mu (r + 1) 2) x y = 1 by unfold mtF; (repeat' split) <;> omega, if_neg (by decide), if_neg (by decide)] at E
    rw [inI_0 hb]
    refine V_if_ne C 14 dX9_moveTab_5 (by decide) (by omega) (fun z0 => ?_) (fun z0 => ?_)
    · exact absurd rfl z0
    · refine V_aload_n C dX9_moveTab_8 rfl ?_
      refine V_iconst C dX9_moveTab_9 ?_
      refine V_callVD (nA := 1) C dX9_moveTab_10 (m_fails C.gp hM) gX9_moveTab_X9_fails rfl o9 rfl (by decide +kernel) rfl (by decide) (by decide) (Nat.le_of_ble_eq_true rfl) ⟨by omega, by omega⟩ rfl ?_
      refine V_ireturn C E dX9_moveTab_13 (by omega) (by omega) ?_
      exact Dt_rfl
set_option maxRecDepth 20000 in
theorem ggX9_undo_X9_fails : GoodIn wsX9_undo wsX9_fails := goodIn_r _ [8, 9, 14, 15, 16, 17, 18, 19, 20, 21, 22, 23, 24, 25, 26, 27, 28, 29, 30, 31, 32, 33, 34, 35, 36, 37] (by decide +kernel) (by decide +kernel)
set_option maxRecDepth 20000 in
theorem gX9_undo_X9_fails : GoodIn wsX9_undo (wsV RX9 147 RX9 yX9_fails wsX9_fails) := goodIn_app (goodIn_of _ (by decide +kernel)) ggX9_undo_X9_fails
set_option maxRecDepth 20000 in
theorem ggX9_undo_X9_tells : GoodIn wsX9_undo wsX9_tells := goodIn_r _ [13, 9, 14, 15, 16, 17, 18, 19, 20, 21, 22, 23, 24, 25, 26, 27, 28, 29, 30, 31, 32, 33, 34, 35, 36, 37] (by decide +kernel) (by decide +kernel)
set_option maxRecDepth 20000 in
theorem gX9_undo_X9_tells : GoodIn wsX9_undo (wsV RX9 69 RX9 yX9_tells wsX9_tells) := goodIn_app (goodIn_of _ (by decide +kernel)) ggX9_undo_X9_tells
theorem dX9_undo_0 : decode cX9_undo 0 = .ok (.aload_n 0, 1) := by decide +kernel
theorem dX9_undo_1 : decode cX9_undo 1 = .ok (.getfield 66, 3) := by decide +kernel
theorem dX9_undo_4 : decode cX9_undo 4 = .ok (.ifCond .ne 9, 3) := by decide +kernel
theorem dX9_undo_7 : decode cX9_undo 7 = .ok (.aload_n 0, 1) := by decide +kernel
theorem dX9_undo_8 : decode cX9_undo 8 = .ok (.iconst 1, 1) := by decide +kernel
theorem dX9_undo_9 : decode cX9_undo 9 = .ok (.invokevirtual 147, 3) := by decide +kernel
theorem dX9_undo_12 : decode cX9_undo 12 = .ok (.ireturn, 1) := by decide +kernel
theorem dX9_undo_13 : decode cX9_undo 13 = .ok (.aload_n 0, 1) := by decide +kernel
theorem dX9_undo_14 : decode cX9_undo 14 = .ok (.dup, 1) := by decide +kernel
theorem dX9_undo_15 : decode cX9_undo 15 = .ok (.getfield 66, 3) := by decide +kernel
theorem dX9_undo_18 : decode cX9_undo 18 = .ok (.iconst 1, 1) := by decide +kernel
theorem dX9_undo_19 : decode cX9_undo 19 = .ok (.isub, 1) := by decide +kernel
theorem dX9_undo_20 : decode cX9_undo 20 = .ok (.putfield 66, 3) := by decide +kernel
theorem dX9_undo_23 : decode cX9_undo 23 = .ok (.iconst 0, 1) := by decide +kernel
theorem dX9_undo_24 : decode cX9_undo 24 = .ok (.istore_n 1, 1) := by decide +kernel
theorem dX9_undo_25 : decode cX9_undo 25 = .ok (.iload_n 1, 1) := by decide +kernel
theorem dX9_undo_26 : decode cX9_undo 26 = .ok (.sipush 1639, 3) := by decide +kernel
theorem dX9_undo_29 : decode cX9_undo 29 = .ok (.if_icmp .ge 30, 3) := by decide +kernel
theorem dX9_undo_32 : decode cX9_undo 32 = .ok (.aload_n 0, 1) := by decide +kernel
theorem dX9_undo_33 : decode cX9_undo 33 = .ok (.getfield 7, 3) := by decide +kernel
theorem dX9_undo_36 : decode cX9_undo 36 = .ok (.iload_n 1, 1) := by decide +kernel
theorem dX9_undo_37 : decode cX9_undo 37 = .ok (.aload_n 0, 1) := by decide +kernel
theorem dX9_undo_38 : decode cX9_undo 38 = .ok (.getfield 13, 3) := by decide +kernel
theorem dX9_undo_41 : decode cX9_undo 41 = .ok (.sipush 1639, 3) := by decide +kernel
theorem dX9_undo_44 : decode cX9_undo 44 = .ok (.aload_n 0, 1) := by decide +kernel
theorem dX9_undo_45 : decode cX9_undo 45 = .ok (.getfield 66, 3) := by decide +kernel
theorem dX9_undo_48 : decode cX9_undo 48 = .ok (.imul, 1) := by decide +kernel
theorem dX9_undo_49 : decode cX9_undo 49 = .ok (.iload_n 1, 1) := by decide +kernel
theorem dX9_undo_50 : decode cX9_undo 50 = .ok (.iadd, 1) := by decide +kernel
theorem dX9_undo_51 : decode cX9_undo 51 = .ok (.iaload, 1) := by decide +kernel
theorem dX9_undo_52 : decode cX9_undo 52 = .ok (.iastore, 1) := by decide +kernel
theorem dX9_undo_53 : decode cX9_undo 53 = .ok (.iinc 1 1, 3) := by decide +kernel
theorem dX9_undo_56 : decode cX9_undo 56 = .ok (.goto (-31), 3) := by decide +kernel
theorem dX9_undo_59 : decode cX9_undo 59 = .ok (.aload_n 0, 1) := by decide +kernel
theorem dX9_undo_60 : decode cX9_undo 60 = .ok (.aload_n 0, 1) := by decide +kernel
theorem dX9_undo_61 : decode cX9_undo 61 = .ok (.getfield 66, 3) := by decide +kernel
theorem dX9_undo_64 : decode cX9_undo 64 = .ok (.invokevirtual 69, 3) := by decide +kernel
theorem dX9_undo_67 : decode cX9_undo 67 = .ok (.ireturn, 1) := by decide +kernel
theorem hin_X9_undo_X9 : ∀ w ∈ wsX90, w ∈ wsX9_undo := by decide +kernel
theorem lk_X9_undo_66 : Cond.fieldLink RX9 66 RX9 "pasts" "I" ∈ wsX9_undo := by decide +kernel
theorem lk_X9_undo_7 : Cond.fieldLink RX9 7 RX9 "s" "[I" ∈ wsX9_undo := by decide +kernel
theorem lk_X9_undo_13 : Cond.fieldLink RX9 13 RX9 "past" "[I" ∈ wsX9_undo := by decide +kernel
theorem p_undo (hG : GP G) (hM : MoS S r) (hW : MWo mu r) : Ct G l yX9_undo wsX9_undo 1 0 0 [.ref r] S n mu la (Dt (some (.int (I32 (if mu r 4 = 0 then 0 else mu r 4 - 1)))) S n (if mu r 4 = 0 then up mu r 7 1 else unM mu r) la) := by
  have o9 := hM.1
  obtain ⟨w1, w2, w3, w4, w5⟩ := hW
  refine Ct.ofV (cc := cX9_undo) (nL := 2) (ret := (some .int)) [some (.ref r), none] hG (by decide) rfl (Nat.le_of_ble_eq_true rfl) rfl ?_
  rintro X rfl rfl C hcl hsl E
  refine V_aload_n C dX9_undo_0 rfl ?_
  refine V_getJ C 4 4 rfl dX9_undo_1 o9 rfl hin_X9_undo_X9 (by decide) lk_X9_undo_66 rfl rfl rfl ?_
  refine V_if_ne C 13 dX9_undo_4 (by decide) (by omega) (fun z0 => ?_) (fun z0 => ?_)
  · rw [if_neg z0, if_neg z0] at E
    have loop : ∀ (d : Nat) (j : Int), j + d = 1639 → 0 ≤ j → V X 25 [some (.ref r), some (.int (I32 j))] [] S n (unP mu r j) la 0 0 := by
      intro d
      induction d with
      | zero =>
        intro j h1 h2
        have hj : j = 1639 := by omega
        subst hj
        refine V_iload_n C dX9_undo_25 rfl ?_
        refine V_sipush C dX9_undo_26 (by decide +kernel) ?_
        refine V_icmp_ge C 59 dX9_undo_29 (by decide) (by omega) (by omega) (fun z1 => ?_) (fun z1 => ?_)
        · refine V_aload_n C dX9_undo_59 rfl ?_
          refine V_aload_n C dX9_undo_60 rfl ?_
          refine V_getJ C 4 4 rfl dX9_undo_61 o9 rfl hin_X9_undo_X9 (by decide) lk_X9_undo_66 rfl rfl (unP_4 _ _ _) ?_
          refine V_callVD (nA := 1) C dX9_undo_64 (m_tells C.gp hM) gX9_undo_X9_tells rfl o9 rfl (by decide +kernel) rfl (by decide) (by decide) (Nat.le_of_ble_eq_true rfl) ⟨by omega, by omega⟩ rfl ?_
          refine V_ireturn C E dX9_undo_67 (by omega) (by omega) ?_
          rw [unP_all]
          exact Dt_rfl
        · exact absurd z1 (by decide)
      | succ d ih =>
        intro j h1 h2
        have h9 := ih (j + 1) (by omega) (by omega)
        refine V_iload_n C dX9_undo_25 rfl ?_
        refine V_sipush C dX9_undo_26 (by decide +kernel) ?_
        refine V_icmp_ge C 59 dX9_undo_29 (by decide) (by omega) (by omega) (fun z29 => ?_) (fun z29 => ?_)
        · exact absurd z29 (by first | omega | decide)
        · refine V_aload_n C dX9_undo_32 rfl ?_
          refine V_getR C 0 dX9_undo_33 o9 rfl hin_X9_undo_X9 (by decide) lk_X9_undo_7 rfl rfl ?_
          refine V_iload_n C dX9_undo_36 rfl ?_
          refine V_aload_n C dX9_undo_37 rfl ?_
          refine V_getR C 1 dX9_undo_38 o9 rfl hin_X9_undo_X9 (by decide) lk_X9_undo_13 rfl rfl ?_
          refine V_sipush C dX9_undo_41 (by decide +kernel) ?_
          refine V_aload_n C dX9_undo_44 rfl ?_
          refine V_getJ C 4 4 rfl dX9_undo_45 o9 rfl hin_X9_undo_X9 (by decide) lk_X9_undo_66 rfl rfl (unP_4 _ _ _) ?_
          refine V_imul C dX9_undo_48 ?_
          refine V_iload_n C dX9_undo_49 rfl ?_
          refine V_iadd C dX9_undo_50 ?_
          refine V_ialdJ C dX9_undo_51 hM.2.2.1 (by first | assumption | decide) (by omega) (unP_2 _ _ _ _) ?_
          refine V_iastJ C dX9_undo_52 hM.2.1 (by first | assumption | decide) (by omega) (unP_s h2) ?_
          refine V_iinc C dX9_undo_53 rfl rfl (by decide) ?_
          refine V_goto C 25 dX9_undo_56 (by decide) ?_
          exact h9
    refine V_aload_n C dX9_undo_13 rfl ?_
    refine V_dup C dX9_undo_14 rfl ?_
    refine V_getJ C 4 4 rfl dX9_undo_15 o9 rfl hin_X9_undo_X9 (by decide) lk_X9_undo_66 rfl rfl rfl ?_
    refine V_iconst C dX9_undo_18 ?_
    refine V_isub C dX9_undo_19 ?_
    refine V_putJ C 4 4 rfl dX9_undo_20 o9 rfl hin_X9_undo_X9 tyX9 tyX9_ok nmX9 (by decide) lk_X9_undo_66 rfl rfl (by decide +kernel) rfl rfl ?_
    refine V_iconst C dX9_undo_23 ?_
    refine V_istore_n C dX9_undo_24 rfl (by decide) ?_
    have h := loop 1639 0 (by omega) (by omega)
    rw [unP_0] at h
    exact h
  · rw [if_pos z0, if_pos z0] at E
    refine V_aload_n C dX9_undo_7 rfl ?_
    refine V_iconst C dX9_undo_8 ?_
    refine V_callVD (nA := 1) C dX9_undo_9 (m_fails C.gp hM) gX9_undo_X9_fails rfl o9 rfl (by decide +kernel) rfl (by decide) (by decide) (Nat.le_of_ble_eq_true rfl) ⟨by omega, by omega⟩ rfl ?_
    refine V_ireturn C E dX9_undo_12 (by omega) (by omega) ?_
    exact Dt_rfl
set_option maxRecDepth 20000 in
theorem ggX9_type_X9_in : GoodIn wsX9_type wsX9_in := goodIn_r _ [6] (by decide +kernel) (by decide +kernel)
set_option maxRecDepth 20000 in
theorem gX9_type_X9_in : GoodIn wsX9_type (va_wsS RX9 73 yX9_in wsX9_in) := goodIn_app (goodIn_of _ (by decide +kernel)) ggX9_type_X9_in
set_option maxRecDepth 20000 in
theorem ggX9_type_X9_fails : GoodIn wsX9_type wsX9_fails := goodIn_r _ [10, 11, 16, 17, 18, 19, 20, 21, 22, 23, 24, 25, 26, 27, 28, 29, 30, 31, 32, 33, 34, 35, 36, 37, 38, 39] (by decide +kernel) (by decide +kernel)
set_option maxRecDepth 20000 in
theorem gX9_type_X9_fails : GoodIn wsX9_type (wsV RX9 147 RX9 yX9_fails wsX9_fails) := goodIn_app (goodIn_of _ (by decide +kernel)) ggX9_type_X9_fails
set_option maxRecDepth 20000 in
theorem ggX9_type_X9_tells : GoodIn wsX9_type wsX9_tells := goodIn_r _ [15, 11, 16, 17, 18, 19, 20, 21, 22, 23, 24, 25, 26, 27, 28, 29, 30, 31, 32, 33, 34, 35, 36, 37, 38, 39] (by decide +kernel) (by decide +kernel)
set_option maxRecDepth 20000 in
theorem gX9_type_X9_tells : GoodIn wsX9_type (wsV RX9 69 RX9 yX9_tells wsX9_tells) := goodIn_app (goodIn_of _ (by decide +kernel)) ggX9_type_X9_tells
theorem dX9_type_0 : decode cX9_type 0 = .ok (.iload_n 1, 1) := by decide +kernel
theorem dX9_type_1 : decode cX9_type 1 = .ok (.iconst 0, 1) := by decide +kernel
theorem dX9_type_2 : decode cX9_type 2 = .ok (.bipush 127, 2) := by decide +kernel
theorem dX9_type_4 : decode cX9_type 4 = .ok (.invokestatic 73, 3) := by decide +kernel
theorem dX9_type_7 : decode cX9_type 7 = .ok (.ifCond .ne 9, 3) := by decide +kernel
theorem dX9_type_10 : decode cX9_type 10 = .ok (.aload_n 0, 1) := by decide +kernel
theorem dX9_type_11 : decode cX9_type 11 = .ok (.iconst 1, 1) := by decide +kernel
theorem dX9_type_12 : decode cX9_type 12 = .ok (.invokevirtual 147, 3) := by decide +kernel
theorem dX9_type_15 : decode cX9_type 15 = .ok (.ireturn, 1) := by decide +kernel
theorem dX9_type_16 : decode cX9_type 16 = .ok (.aload_n 0, 1) := by decide +kernel
theorem dX9_type_17 : decode cX9_type 17 = .ok (.getfield 286, 3) := by decide +kernel
theorem dX9_type_20 : decode cX9_type 20 = .ok (.sipush 150, 3) := by decide +kernel
theorem dX9_type_23 : decode cX9_type 23 = .ok (.if_icmp .ne 9, 3) := by decide +kernel
theorem dX9_type_26 : decode cX9_type 26 = .ok (.aload_n 0, 1) := by decide +kernel
theorem dX9_type_27 : decode cX9_type 27 = .ok (.iconst 2, 1) := by decide +kernel
theorem dX9_type_28 : decode cX9_type 28 = .ok (.invokevirtual 147, 3) := by decide +kernel
theorem dX9_type_31 : decode cX9_type 31 = .ok (.ireturn, 1) := by decide +kernel
theorem dX9_type_32 : decode cX9_type 32 = .ok (.aload_n 0, 1) := by decide +kernel
theorem dX9_type_33 : decode cX9_type 33 = .ok (.getfield 22, 3) := by decide +kernel
theorem dX9_type_36 : decode cX9_type 36 = .ok (.aload_n 0, 1) := by decide +kernel
theorem dX9_type_37 : decode cX9_type 37 = .ok (.getfield 286, 3) := by decide +kernel
theorem dX9_type_40 : decode cX9_type 40 = .ok (.iload_n 1, 1) := by decide +kernel
theorem dX9_type_41 : decode cX9_type 41 = .ok (.iastore, 1) := by decide +kernel
theorem dX9_type_42 : decode cX9_type 42 = .ok (.aload_n 0, 1) := by decide +kernel
theorem dX9_type_43 : decode cX9_type 43 = .ok (.dup, 1) := by decide +kernel
theorem dX9_type_44 : decode cX9_type 44 = .ok (.getfield 286, 3) := by decide +kernel
theorem dX9_type_47 : decode cX9_type 47 = .ok (.iconst 1, 1) := by decide +kernel
theorem dX9_type_48 : decode cX9_type 48 = .ok (.iadd, 1) := by decide +kernel
theorem dX9_type_49 : decode cX9_type 49 = .ok (.putfield 286, 3) := by decide +kernel
theorem dX9_type_52 : decode cX9_type 52 = .ok (.aload_n 0, 1) := by decide +kernel
theorem dX9_type_53 : decode cX9_type 53 = .ok (.aload_n 0, 1) := by decide +kernel
theorem dX9_type_54 : decode cX9_type 54 = .ok (.getfield 286, 3) := by decide +kernel
theorem dX9_type_57 : decode cX9_type 57 = .ok (.invokevirtual 69, 3) := by decide +kernel
theorem dX9_type_60 : decode cX9_type 60 = .ok (.ireturn, 1) := by decide +kernel
theorem hin_X9_type_X9 : ∀ w ∈ wsX90, w ∈ wsX9_type := by decide +kernel
theorem lk_X9_type_286 : Cond.fieldLink RX9 286 RX9 "typed" "I" ∈ wsX9_type := by decide +kernel
theorem lk_X9_type_22 : Cond.fieldLink RX9 22 RX9 "text" "[I" ∈ wsX9_type := by decide +kernel
def tyF9 (n v : Int) : Int := if ¬ (0 ≤ v ∧ v ≤ 127) then 1 else if n = 150 then 2 else 0
theorem p_type (hG : GP G) (hM : MoS S r) (hW : MWo mu r) {x : Int} (hx : -2147483648 ≤ x ∧ x ≤ 2147483647) : Ct G l yX9_type wsX9_type 1 0 0 [.ref r, .int (I32 x)] S n mu la (Dt (some (.int (I32 (if tyF9 (mu r 6) x = 0 then mu r 6 + 1 else 0)))) S n (if tyF9 (mu r 6) x = 0 then up (up (up mu (r + 5) (mu r 6) x) r 6 (mu r 6 + 1)) r 7 0 else up mu r 7 (tyF9 (mu r 6) x)) la) := by
  have o9 := hM.1
  obtain ⟨w1, w2, w3, w4, w5⟩ := hW
  refine Ct.ofV (cc := cX9_type) (nL := 2) (ret := (some .int)) [some (.ref r), some (.int (I32 x))] hG (by decide) rfl (Nat.le_of_ble_eq_true rfl) rfl ?_
  rintro X rfl rfl C hcl hsl E
  refine V_iload_n C dX9_type_0 rfl ?_
  refine V_iconst C dX9_type_1 ?_
  refine V_bipush C dX9_type_2 (by decide +kernel) ?_
  refine V_callSD (nA := 3) C dX9_type_4 (m_in C.gp hx (by omega) (by omega)) gX9_type_X9_in rfl (by decide +kernel) rfl (by decide) (by decide) (Nat.le_of_ble_eq_true rfl) ⟨by omega, by omega⟩ rfl ?_
  by_cases hb : 0 ≤ x ∧ x ≤ 127
  · skip
    rw [inI_1 hb]
    refine V_if_ne C 16 dX9_type_7 (by decide) (by omega) (fun z0 => ?_) (fun z0 => ?_)
    · refine V_aload_n C dX9_type_16 rfl ?_
      refine V_getJ C 6 6 rfl dX9_type_17 o9 rfl hin_X9_type_X9 (by decide) lk_X9_type_286 rfl rfl rfl ?_
      refine V_sipush C dX9_type_20 (by decide +kernel) ?_
      refine V_icmp_ne C 32 dX9_type_23 (by decide) (by omega) (by omega) (fun z1 => ?_) (fun z1 => ?_)
      · rw [show tyF9 (mu r 6) x = 0 by unfold tyF9; (repeat' split) <;> omega, if_pos rfl, if_pos rfl] at E
        refine V_aload_n C dX9_type_32 rfl ?_
        refine V_getR C 5 dX9_type_33 o9 rfl hin_X9_type_X9 (by decide) lk_X9_type_22 rfl rfl ?_
        refine V_aload_n C dX9_type_36 rfl ?_
        refine V_getJ C 6 6 rfl dX9_type_37 o9 rfl hin_X9_type_X9 (by decide) lk_X9_type_286 rfl rfl rfl ?_
        refine V_iload_n C dX9_type_40 rfl ?_
        refine V_iastJ C dX9_type_41 hM.2.2.2.2.2.1 (by first | assumption | decide) (by omega) rfl ?_
        refine V_aload_n C dX9_type_42 rfl ?_
        refine V_dup C dX9_type_43 rfl ?_
        refine V_getJ C 6 6 rfl dX9_type_44 o9 rfl hin_X9_type_X9 (by decide) lk_X9_type_286 rfl rfl (by first | exact up_a _ _ _ _ (by omega) | exact up_s _ _ _ _) ?_
        refine V_iconst C dX9_type_47 ?_
        refine V_iadd C dX9_type_48 ?_
        refine V_putJ C 6 6 rfl dX9_type_49 o9 rfl hin_X9_type_X9 tyX9 tyX9_ok nmX9 (by decide) lk_X9_type_286 rfl rfl (by decide +kernel) rfl rfl ?_
        refine V_aload_n C dX9_type_52 rfl ?_
        refine V_aload_n C dX9_type_53 rfl ?_
        refine V_getJ C 6 6 rfl dX9_type_54 o9 rfl hin_X9_type_X9 (by decide) lk_X9_type_286 rfl rfl (by first | exact up_a _ _ _ _ (by omega) | exact up_s _ _ _ _) ?_
        refine V_callVD (nA := 1) C dX9_type_57 (m_tells C.gp hM) gX9_type_X9_tells rfl o9 rfl (by decide +kernel) rfl (by decide) (by decide) (Nat.le_of_ble_eq_true rfl) ⟨by omega, by omega⟩ rfl ?_
        refine V_ireturn C E dX9_type_60 (by omega) (by omega) ?_
        exact Dt_rfl
      · rw [show tyF9 (mu r 6) x = 2 by unfold tyF9; (repeat' split) <;> omega, if_neg (by decide), if_neg (by decide)] at E
        refine V_aload_n C dX9_type_26 rfl ?_
        refine V_iconst C dX9_type_27 ?_
        refine V_callVD (nA := 1) C dX9_type_28 (m_fails C.gp hM) gX9_type_X9_fails rfl o9 rfl (by decide +kernel) rfl (by decide) (by decide) (Nat.le_of_ble_eq_true rfl) ⟨by omega, by omega⟩ rfl ?_
        refine V_ireturn C E dX9_type_31 (by omega) (by omega) ?_
        exact Dt_rfl
    · exact absurd z0 (by decide)
  · rw [show tyF9 (mu r 6) x = 1 by unfold tyF9; (repeat' split) <;> omega, if_neg (by decide), if_neg (by decide)] at E
    rw [inI_0 hb]
    refine V_if_ne C 16 dX9_type_7 (by decide) (by omega) (fun z0 => ?_) (fun z0 => ?_)
    · exact absurd rfl z0
    · refine V_aload_n C dX9_type_10 rfl ?_
      refine V_iconst C dX9_type_11 ?_
      refine V_callVD (nA := 1) C dX9_type_12 (m_fails C.gp hM) gX9_type_X9_fails rfl o9 rfl (by decide +kernel) rfl (by decide) (by decide) (Nat.le_of_ble_eq_true rfl) ⟨by omega, by omega⟩ rfl ?_
      refine V_ireturn C E dX9_type_15 (by omega) (by omega) ?_
      exact Dt_rfl
set_option maxRecDepth 20000 in
theorem ggX9_clearCommands_X9_tells : GoodIn wsX9_clearCommands wsX9_tells := goodIn_r _ [6, 7, 8, 9, 10, 11, 12, 13, 14, 15, 16, 17, 18, 19, 20, 21, 22, 23, 24, 25, 26, 27, 28, 29, 30, 31] (by decide +kernel) (by decide +kernel)
set_option maxRecDepth 20000 in
theorem gX9_clearCommands_X9_tells : GoodIn wsX9_clearCommands (wsV RX9 69 RX9 yX9_tells wsX9_tells) := goodIn_app (goodIn_of _ (by decide +kernel)) ggX9_clearCommands_X9_tells
theorem dX9_clearCommands_0 : decode cX9_clearCommands 0 = .ok (.aload_n 0, 1) := by decide +kernel
theorem dX9_clearCommands_1 : decode cX9_clearCommands 1 = .ok (.getfield 286, 3) := by decide +kernel
theorem dX9_clearCommands_4 : decode cX9_clearCommands 4 = .ok (.istore_n 1, 1) := by decide +kernel
theorem dX9_clearCommands_5 : decode cX9_clearCommands 5 = .ok (.aload_n 0, 1) := by decide +kernel
theorem dX9_clearCommands_6 : decode cX9_clearCommands 6 = .ok (.iconst 0, 1) := by decide +kernel
theorem dX9_clearCommands_7 : decode cX9_clearCommands 7 = .ok (.putfield 286, 3) := by decide +kernel
theorem dX9_clearCommands_10 : decode cX9_clearCommands 10 = .ok (.aload_n 0, 1) := by decide +kernel
theorem dX9_clearCommands_11 : decode cX9_clearCommands 11 = .ok (.iload_n 1, 1) := by decide +kernel
theorem dX9_clearCommands_12 : decode cX9_clearCommands 12 = .ok (.invokevirtual 69, 3) := by decide +kernel
theorem dX9_clearCommands_15 : decode cX9_clearCommands 15 = .ok (.ireturn, 1) := by decide +kernel
theorem hin_X9_clearCommands_X9 : ∀ w ∈ wsX90, w ∈ wsX9_clearCommands := by decide +kernel
theorem lk_X9_clearCommands_286 : Cond.fieldLink RX9 286 RX9 "typed" "I" ∈ wsX9_clearCommands := by decide +kernel
theorem p_clearCommands (hG : GP G) (hM : MoS S r) : Ct G l yX9_clearCommands wsX9_clearCommands 1 0 0 [.ref r] S n mu la (Dt (some (.int (I32 (mu r 6)))) S n (up (up mu r 6 0) r 7 0) la) := by
  have o9 := hM.1
  refine Ct.ofV (cc := cX9_clearCommands) (nL := 2) (ret := (some .int)) [some (.ref r), none] hG (by decide) rfl (Nat.le_of_ble_eq_true rfl) rfl ?_
  rintro X rfl rfl C hcl hsl E
  refine V_aload_n C dX9_clearCommands_0 rfl ?_
  refine V_getJ C 6 6 rfl dX9_clearCommands_1 o9 rfl hin_X9_clearCommands_X9 (by decide) lk_X9_clearCommands_286 rfl rfl rfl ?_
  refine V_istore_n C dX9_clearCommands_4 rfl (by decide) ?_
  refine V_aload_n C dX9_clearCommands_5 rfl ?_
  refine V_iconst C dX9_clearCommands_6 ?_
  refine V_putJ C 6 6 rfl dX9_clearCommands_7 o9 rfl hin_X9_clearCommands_X9 tyX9 tyX9_ok nmX9 (by decide) lk_X9_clearCommands_286 rfl rfl (by decide +kernel) rfl rfl ?_
  refine V_aload_n C dX9_clearCommands_10 rfl ?_
  refine V_iload_n C dX9_clearCommands_11 rfl ?_
  refine V_callVD (nA := 1) C dX9_clearCommands_12 (m_tells C.gp hM) gX9_clearCommands_X9_tells rfl o9 rfl (by decide +kernel) rfl (by decide) (by decide) (Nat.le_of_ble_eq_true rfl) ⟨by omega, by omega⟩ rfl ?_
  refine V_ireturn C E dX9_clearCommands_15 (by omega) (by omega) ?_
  exact Dt_rfl
end M5
