/-! DockTree: what the calls share -/
theorem LayAt_putL (mu L : Mem) (b : Nat) : LayAt (putL mu b L) b L := fun k hk i => putL_get hk i
theorem lay_putL_bd {N : Int} {mu L : Mem} {b : Nat} (hN : 0 ≤ N) (h : Bd N L) : Bd N (lay (putL mu b L) b) := fun k i => by
  unfold lay
  split
  · rename_i hk; rw [putL_get hk]; exact h k i
  · omega
theorem lay_putL_off {mu L : Mem} {b d : Nat} (h : d + 8 < b + 1 ∨ b + 8 < d + 1) : lay (putL mu b L) d = lay mu d := by
  funext k i
  unfold lay
  split
  · rw [putL_off (by omega)]
  · rfl
theorem pl_putL {mu L : Mem} {b p : Nat} (h : b + 8 < p ∨ p + 14 ≤ b + 1) : pl (putL mu b L) p = pl mu p := by
  funext k i
  unfold pl
  split
  · rw [putL_off (by omega)]
  · rfl
theorem lay_putK {mu P : Mem} {b p w : Nat} (h : b + 8 < p ∨ p + w ≤ b + 1) : lay (putK mu p w P) b = lay mu b := by
  funext k i
  unfold lay
  split
  · rw [putK_off (by omega)]
  · rfl
theorem lay_up {mu : Mem} {b d : Nat} (h : d < b + 1 ∨ b + 8 < d) (i v : Int) : lay (up mu d i v) b = lay mu b := by
  funext k j
  unfold lay
  split
  · rw [up_a _ _ _ _ (by omega)]
  · rfl
theorem lay_sK {mu : Mem} {b d m : Nat} (h : d < b + 1 ∨ b + 8 < d) (i v : Int) : lay (sK mu d m i v) b = lay mu b := by
  funext k j
  unfold lay
  split
  · rw [sK_ne (by omega)]
  · rfl
theorem cp8_row {mu : Mem} {d b k : Nat} (hd : d + 8 < b + 1 ∨ b + 8 < d + 1) (hk : k < 8) (i : Int) : ∀ m, m ≤ 8 → cp8 mu d b m (b + 1 + k) i = if k < m ∧ 0 ≤ i ∧ i < llen k then mu (d + 1 + k) i else mu (b + 1 + k) i
  | 0, _ => by rw [cp8, if_neg (by omega)]
  | m + 1, hm => by
    rw [cp8]
    by_cases hkm : k = m
    · subst hkm
      unfold cpF
      rw [cp8_off _ _ (by omega)]
      by_cases hi : 0 ≤ i ∧ i < llen k
      · rw [if_pos ⟨rfl, hi⟩, if_pos ⟨by omega, hi⟩]
      · rw [if_neg (fun y => hi y.2), if_neg (fun y => hi y.2), cp8_row hd hk i k (by omega), if_neg (by omega)]
    · rw [cpF_off (by omega), cp8_row hd hk i m (by omega)]
      by_cases hi : k < m ∧ 0 ≤ i ∧ i < llen k
      · rw [if_pos hi, if_pos ⟨by omega, hi.2⟩]
      · rw [if_neg hi, if_neg (by omega)]
theorem lay_cp8_bd {N : Int} {mu : Mem} {d b : Nat} (hd : d + 8 < b + 1 ∨ b + 8 < d + 1) (h1 : Bd N (lay mu d)) (h2 : Bd N (lay mu b)) : Bd N (lay (cp8 mu d b 8) b) := fun k i => by
  have g1 := h1 k i
  have g2 := h2 k i
  unfold lay at *
  split
  · rename_i hk
    rw [if_pos hk] at g1 g2
    rw [cp8_row hd (by omega) i 8 (by omega)]
    split
    · exact g1
    · exact g2
  · rename_i hk
    rw [if_neg hk] at g1
    exact g1
theorem lay_cp8_off {mu : Mem} {d b e : Nat} (h : e + 8 < b + 1 ∨ b + 8 < e + 1) : lay (cp8 mu d b 8) e = lay mu e := by
  funext k i
  unfold lay
  split
  · rw [cp8_off _ _ (by omega)]
  · rfl
theorem R32_putL {mu L : Mem} {b : Nat} (h : R32 mu) (hL : R32 L) : R32 (putL mu b L) := fun k i => by
  unfold putL; split
  · exact hL _ i
  · exact h k i
theorem R32_putK {mu P : Mem} {p w : Nat} (h : R32 mu) (hL : R32 P) : R32 (putK mu p w P) := fun k i => by
  unfold putK; split
  · exact hL _ i
  · exact h k i
theorem Bd.r32 {N : Int} {L : Mem} (h : Bd N L) (hN : N ≤ 2147483647) : R32 L := fun k i => by have := h k i; omega
theorem pshM_off {mu : Mem} {c h x : Nat} (hn : 0 ≤ mu h 2 ∧ mu h 2 < 4) (hx : x < h ∨ h + 198 ≤ x) (i : Int) : pshM mu c h x i = mu x i := by
  show up (up (stC mu c (h + 2 + 49 * (mu h 2).toNat)) h 2 _) h 1 _ x i = _
  rw [up_a _ _ _ _ (by omega), up_a _ _ _ _ (by omega), stC_off (by omega)]
theorem R32_pshM {mu : Mem} {c h : Nat} (hR : R32 mu) (hn : 0 ≤ mu h 2 ∧ mu h 2 < 4) (hz : 0 ≤ mu h 1 ∧ mu h 1 ≤ 4) : R32 (pshM mu c h) :=
  R32_up (R32_up (R32_stC hR _ _) _ _ (by split <;> omega)) _ _ (by omega)
theorem lay_psh {mu : Mem} {c h b : Nat} (hn : 0 ≤ mu h 2 ∧ mu h 2 < 4) (hx : b + 9 ≤ h ∨ h + 198 ≤ b) : lay (pshM mu c h) b = lay mu b := by
  funext k i
  unfold lay
  split
  · rw [pshM_off hn (by omega)]
  · rfl
theorem pl_psh {mu : Mem} {c h p : Nat} (hn : 0 ≤ mu h 2 ∧ mu h 2 < 4) (hx : p + 14 ≤ h ∨ h + 198 ≤ p) : pl (pshM mu c h) p = pl mu p := by
  funext k i
  unfold pl
  split
  · rw [pshM_off hn (by omega)]
  · rfl
def sL (L : Mem) (k : Nat) (i v : Int) : Mem := sK L k (llen k) i v
theorem sL_bd {N : Int} {L : Mem} (h : Bd N L) (k : Nat) (i : Int) {v : Int} (hN : N ≤ 2147483647) (hv : -N ≤ v ∧ v ≤ N) : Bd N (sL L k i v) := by
  intro k' j
  unfold sL sK puF
  split
  · unfold up
    split
    · rw [wr_id (by omega)]; exact hv
    · exact h k' j
  · exact h k' j
theorem sL_ne {L : Mem} {k k' : Nat} (h : k' ≠ k) (i v j : Int) : sL L k i v k' j = L k' j := sK_ne h _ _ _
theorem gL_sL_ne {L : Mem} {k k' : Nat} (h : k' ≠ k) (i v j : Int) : gL (sL L k i v) k' j = gL L k' j := gK_sK_ne h _ _ _
def stlM (mu : Mem) (p c : Nat) : Mem := wkR mu p (c + 2) (c + 1) (mu c 0) (mu c 1)
def piG (L : Mem) (s : Int) : Nat → Int
  | 0 => 0
  | j + 1 => if sttF L j = s then piG L s j + 1 else piG L s j
theorem piG_b (L : Mem) (s : Int) : ∀ j, 0 ≤ piG L s j ∧ piG L s j ≤ j
  | 0 => by simp [piG]
  | j + 1 => by have := piG_b L s j; rw [piG]; split <;> omega
section D2
variable {G : Gx} {l : Launch} {S : Sh} {n : Nat} {mu : Mem} {la : Lam} {a c h t p b q : Nat}
-- X4_changeWeight
theorem s_changeWeight (hG : GP G) (hL : LayS S b) {L : Mem} {x v : Int} : Ct G l yX4_changeWeight wsX4_changeWeight 1 0 0 [.ref b, .int (I32 x), .int (I32 v)] S n (putL mu b L) la (Dt none S n (putL mu b (sL L 3 x v)) la) := by
  have o4 := hL.1
  have e : sK (putL mu b L) (b + 1 + 3) 49 x v = putL mu b (sL L 3 x v) := puF_putL (by decide) _ _
  refine Ct.ofV (cc := cX4_changeWeight) (nL := 3) (ret := none) [some (.ref b), some (.int (I32 x)), some (.int (I32 v))] hG (by decide) rfl (Nat.le_of_ble_eq_true rfl) rfl ?_
  rintro X rfl rfl C hcl hsl E
  refine V_aload_n C dX4_changeWeight_0 rfl ?_
  refine V_getR C 3 dX4_changeWeight_1 o4 rfl hin_X4_changeWeight_X4 (by decide) lk_X4_changeWeight_21 rfl rfl ?_
  refine V_iload_n C dX4_changeWeight_4 rfl ?_
  refine V_iload_n C dX4_changeWeight_5 rfl ?_
  refine V_callSND (nA := 3) (host := "DockTree") C dX4_changeWeight_6 (c_putW C.gp (hL.2 3 (by decide)) (llen_lt 3)) gX4_changeWeight_X8_put_n50 (by decide +kernel) (by decide +kernel) (by decide +kernel) rfl (by decide +kernel) rfl (by decide) (by decide) (Nat.le_of_ble_eq_true rfl) ⟨by omega, by omega⟩ rfl ?_
  refine V_return C E dX4_changeWeight_9 (by omega) (by omega) ?_
  rw [← e]; exact Dt_rfl
theorem ws_changeWeight (hG : GP G) (hL : LayS S b) {x v : Int} : Ct G l yX4_changeWeight wsX4_changeWeight 1 0 0 [.ref b, .int (I32 x), .int (I32 v)] S n mu la (Dt none S n (putL mu b (sL (lay mu b) 3 x v)) la) := by
  have h := s_changeWeight (l := l) (n := n) (mu := mu) (la := la) (L := lay mu b) (x := x) (v := v) hG hL
  rw [putL_lay] at h; exact h
-- X4_changeActive
theorem ws_changeActive (hG : GP G) (hL : LayS S b) {x v : Int} : Ct G l yX4_changeActive wsX4_changeActive 1 0 0 [.ref b, .int (I32 x), .int (I32 v)] S n mu la (Dt none S n (putL mu b (sL (lay mu b) 4 (x - 16) v)) la) := by
  have o4 := hL.1
  have e : sK (putL mu b (lay mu b)) (b + 1 + 4) 16 (x - 16) v = putL mu b (sL (lay mu b) 4 (x - 16) v) := puF_putL (by decide) _ _
  rw [putL_lay] at e
  refine Ct.ofV (cc := cX4_changeActive) (nL := 3) (ret := none) [some (.ref b), some (.int (I32 x)), some (.int (I32 v))] hG (by decide) rfl (Nat.le_of_ble_eq_true rfl) rfl ?_
  rintro X rfl rfl C hcl hsl E
  refine V_aload_n C dX4_changeActive_0 rfl ?_
  refine V_getR C 4 dX4_changeActive_1 o4 rfl hin_X4_changeActive_X4 (by decide) lk_X4_changeActive_24 rfl rfl ?_
  refine V_iload_n C dX4_changeActive_4 rfl ?_
  refine V_bipush C dX4_changeActive_5 (by decide +kernel) ?_
  refine V_isub C dX4_changeActive_7 ?_
  refine V_iload_n C dX4_changeActive_8 rfl ?_
  refine V_callSND (nA := 3) (host := "DockTree") C dX4_changeActive_9 (c_putW C.gp (hL.2 4 (by decide)) (llen_lt 4)) gX4_changeActive_X8_put_n50 (by decide +kernel) (by decide +kernel) (by decide +kernel) rfl (by decide +kernel) rfl (by decide) (by decide) (Nat.le_of_ble_eq_true rfl) ⟨by omega, by omega⟩ rfl ?_
  refine V_return C E dX4_changeActive_12 (by omega) (by omega) ?_
  rw [← e]; exact Dt_rfl
set_option maxRecDepth 20000 in
theorem ggX8_settle_X5_work : GoodIn wsX8_settle wsX5_work := goodIn_s _ [(7, 8), (6, 1), (15, 144), (172, 27)] (by rfl) (by decide +kernel)
set_option maxRecDepth 20000 in
theorem gX8_settle_X5_work : GoodIn wsX8_settle (wsV RX8 250 RX5 yX5_work wsX5_work) := goodIn_app (goodIn_of _ (by decide +kernel)) ggX8_settle_X5_work
theorem dX8_settle_0 : decode cX8_settle 0 = .ok (.aload_n 0, 1) := by decide +kernel
theorem dX8_settle_1 : decode cX8_settle 1 = .ok (.getfield 33, 3) := by decide +kernel
theorem dX8_settle_4 : decode cX8_settle 4 = .ok (.aload_n 0, 1) := by decide +kernel
theorem dX8_settle_5 : decode cX8_settle 5 = .ok (.getfield 12, 3) := by decide +kernel
theorem dX8_settle_8 : decode cX8_settle 8 = .ok (.getfield 97, 3) := by decide +kernel
theorem dX8_settle_11 : decode cX8_settle 11 = .ok (.aload_n 0, 1) := by decide +kernel
theorem dX8_settle_12 : decode cX8_settle 12 = .ok (.getfield 12, 3) := by decide +kernel
theorem dX8_settle_15 : decode cX8_settle 15 = .ok (.getfield 246, 3) := by decide +kernel
theorem dX8_settle_18 : decode cX8_settle 18 = .ok (.aload_n 0, 1) := by decide +kernel
theorem dX8_settle_19 : decode cX8_settle 19 = .ok (.getfield 12, 3) := by decide +kernel
theorem dX8_settle_22 : decode cX8_settle 22 = .ok (.getfield 59, 3) := by decide +kernel
theorem dX8_settle_25 : decode cX8_settle 25 = .ok (.aload_n 0, 1) := by decide +kernel
theorem dX8_settle_26 : decode cX8_settle 26 = .ok (.getfield 12, 3) := by decide +kernel
theorem dX8_settle_29 : decode cX8_settle 29 = .ok (.getfield 63, 3) := by decide +kernel
theorem dX8_settle_32 : decode cX8_settle 32 = .ok (.invokevirtual 250, 3) := by decide +kernel
theorem dX8_settle_35 : decode cX8_settle 35 = .ok (.return_, 1) := by decide +kernel
theorem hin_X8_settle_X8 : ∀ w ∈ wsX80, w ∈ wsX8_settle := by decide +kernel
theorem lk_X8_settle_33 : Cond.fieldLink RX8 33 RX8 "plan" "LDockTree$Plan;" ∈ wsX8_settle := by decide +kernel
theorem lk_X8_settle_12 : Cond.fieldLink RX8 12 RX8 "now" "LDockTree$State;" ∈ wsX8_settle := by decide +kernel
theorem hin_X8_settle_X7 : ∀ w ∈ wsX70, w ∈ wsX8_settle := by decide +kernel
theorem k_settle (hG : GP G) (hD : DoS S a c h t p b q) (hR : R32 mu) {N : Int} (hB : Bd N (lay mu (c + 2))) (hN : 1 ≤ N ∧ N ≤ 16777216) : Ct G l yX8_settle wsX8_settle 5 0 0 [.ref a] S n mu la (Dt none S n (stlM mu p c) la) := by
  have o8 := hD.1
  have o7 := hD.2.1.1
  have o5 := hD.2.2.2.2.1.1
  have dj := hD.2.2.2.2.2.2.2
  refine Ct.ofV (cc := cX8_settle) (nL := 1) (ret := none) [some (.ref a)] hG (by decide) rfl (Nat.le_of_ble_eq_true rfl) rfl ?_
  rintro X rfl rfl C hcl hsl E
  refine V_aload_n C dX8_settle_0 rfl ?_
  refine V_getR C 3 dX8_settle_1 o8 rfl hin_X8_settle_X8 (by decide) lk_X8_settle_33 rfl rfl ?_
  refine V_aload_n C dX8_settle_4 rfl ?_
  refine V_getR C 0 dX8_settle_5 o8 rfl hin_X8_settle_X8 (by decide) lk_X8_settle_12 rfl rfl ?_
  refine V_getNR C 4 (host := "DockTree") dX8_settle_8 o7 rfl hin_X8_settle_X7 (by decide) (by decide +kernel) rfl rfl ?_
  refine V_aload_n C dX8_settle_11 rfl ?_
  refine V_getR C 0 dX8_settle_12 o8 rfl hin_X8_settle_X8 (by decide) lk_X8_settle_12 rfl rfl ?_
  refine V_getNR C 3 (host := "DockTree") dX8_settle_15 o7 rfl hin_X8_settle_X7 (by decide) (by decide +kernel) rfl rfl ?_
  refine V_aload_n C dX8_settle_18 rfl ?_
  refine V_getR C 0 dX8_settle_19 o8 rfl hin_X8_settle_X8 (by decide) lk_X8_settle_12 rfl rfl ?_
  refine V_getNJ C 0 0 rfl (host := "DockTree") dX8_settle_22 o7 rfl hin_X8_settle_X7 (by decide) (by decide +kernel) rfl rfl rfl ?_
  refine V_aload_n C dX8_settle_25 rfl ?_
  refine V_getR C 0 dX8_settle_26 o8 rfl hin_X8_settle_X8 (by decide) lk_X8_settle_12 rfl rfl ?_
  refine V_getNJ C 1 1 rfl (host := "DockTree") dX8_settle_29 o7 rfl hin_X8_settle_X7 (by decide) (by decide +kernel) rfl rfl rfl ?_
  refine V_callVD (nA := 4) C dX8_settle_32 (w_work C.gp hD.2.2.2.2.1 hR hD.2.1.2.2.1 (by omega) hB hN hD.2.1.2.1 (by omega)) gX8_settle_X5_work rfl o5 rfl (by decide +kernel) rfl (by decide) (by decide) (Nat.le_of_ble_eq_true rfl) ⟨by omega, by omega⟩ rfl ?_
  refine V_return C E dX8_settle_35 (by omega) (by omega) ?_
  exact Dt_rfl
set_option maxRecDepth 20000 in
theorem ggX8_panesIn_X4_stateOf : GoodIn wsX8_panesIn wsX4_stateOf := goodIn_r _ [6, 7, 8, 9, 10, 24, 25, 26, 27, 28, 29, 30, 31] (by decide +kernel) (by decide +kernel)
set_option maxRecDepth 20000 in
theorem gX8_panesIn_X4_stateOf : GoodIn wsX8_panesIn (wsV RX8 137 RX4 yX4_stateOf wsX4_stateOf) := goodIn_app (goodIn_of _ (by decide +kernel)) ggX8_panesIn_X4_stateOf
theorem dX8_panesIn_0 : decode cX8_panesIn 0 = .ok (.iconst 0, 1) := by decide +kernel
theorem dX8_panesIn_1 : decode cX8_panesIn 1 = .ok (.istore_n 2, 1) := by decide +kernel
theorem dX8_panesIn_2 : decode cX8_panesIn 2 = .ok (.iconst 0, 1) := by decide +kernel
theorem dX8_panesIn_3 : decode cX8_panesIn 3 = .ok (.istore_n 3, 1) := by decide +kernel
theorem dX8_panesIn_4 : decode cX8_panesIn 4 = .ok (.iload_n 3, 1) := by decide +kernel
theorem dX8_panesIn_5 : decode cX8_panesIn 5 = .ok (.aload_n 0, 1) := by decide +kernel
theorem dX8_panesIn_6 : decode cX8_panesIn 6 = .ok (.getfield 12, 3) := by decide +kernel
theorem dX8_panesIn_9 : decode cX8_panesIn 9 = .ok (.getfield 76, 3) := by decide +kernel
theorem dX8_panesIn_12 : decode cX8_panesIn 12 = .ok (.if_icmp .ge 27, 3) := by decide +kernel
theorem dX8_panesIn_15 : decode cX8_panesIn 15 = .ok (.aload_n 0, 1) := by decide +kernel
theorem dX8_panesIn_16 : decode cX8_panesIn 16 = .ok (.getfield 12, 3) := by decide +kernel
theorem dX8_panesIn_19 : decode cX8_panesIn 19 = .ok (.getfield 97, 3) := by decide +kernel
theorem dX8_panesIn_22 : decode cX8_panesIn 22 = .ok (.iload_n 3, 1) := by decide +kernel
theorem dX8_panesIn_23 : decode cX8_panesIn 23 = .ok (.invokevirtual 137, 3) := by decide +kernel
theorem dX8_panesIn_26 : decode cX8_panesIn 26 = .ok (.iload_n 1, 1) := by decide +kernel
theorem dX8_panesIn_27 : decode cX8_panesIn 27 = .ok (.if_icmp .ne 6, 3) := by decide +kernel
theorem dX8_panesIn_30 : decode cX8_panesIn 30 = .ok (.iinc 2 1, 3) := by decide +kernel
theorem dX8_panesIn_33 : decode cX8_panesIn 33 = .ok (.iinc 3 1, 3) := by decide +kernel
theorem dX8_panesIn_36 : decode cX8_panesIn 36 = .ok (.goto (-32), 3) := by decide +kernel
theorem dX8_panesIn_39 : decode cX8_panesIn 39 = .ok (.iload_n 2, 1) := by decide +kernel
theorem dX8_panesIn_40 : decode cX8_panesIn 40 = .ok (.ireturn, 1) := by decide +kernel
theorem hin_X8_panesIn_X8 : ∀ w ∈ wsX80, w ∈ wsX8_panesIn := by decide +kernel
theorem lk_X8_panesIn_12 : Cond.fieldLink RX8 12 RX8 "now" "LDockTree$State;" ∈ wsX8_panesIn := by decide +kernel
theorem hin_X8_panesIn_X7 : ∀ w ∈ wsX70, w ∈ wsX8_panesIn := by decide +kernel
theorem k_panesIn (hG : GP G) (hD : DoS S a c h t p b q) (hB : Bd 16000100 (lay mu (c + 2))) (hp : 0 ≤ mu c 2 ∧ mu c 2 ≤ 16) {s : Int} (hs : -2147483648 ≤ s ∧ s ≤ 2147483647) : Ct G l yX8_panesIn wsX8_panesIn 2 0 0 [.ref a, .int (I32 s)] S n mu la (Dt (some (.int (I32 (piG (lay mu (c + 2)) s (mu c 2).toNat)))) S n mu la) := by
  have o8 := hD.1
  have o7 := hD.2.1.1
  have o4 := hD.2.1.2.2.1.1
  refine Ct.ofV (cc := cX8_panesIn) (nL := 4) (ret := (some .int)) [some (.ref a), some (.int (I32 s)), none, none] hG (by decide) rfl (Nat.le_of_ble_eq_true rfl) rfl ?_
  rintro X rfl rfl C hcl hsl E
  have loop : ∀ (d j : Nat), (j : Int) + d = mu c 2 → V X 4 [some (.ref a), some (.int (I32 s)), some (.int (I32 (piG (lay mu (c + 2)) s j))), some (.int (I32 (j : Int)))] [] S n mu la 0 0 := by
    intro d
    induction d with
    | zero =>
      intro j hj
      have e : (mu c 2).toNat = j := by omega
      refine V_iload_n C dX8_panesIn_4 rfl ?_
      refine V_aload_n C dX8_panesIn_5 rfl ?_
      refine V_getR C 0 dX8_panesIn_6 o8 rfl hin_X8_panesIn_X8 (by decide) lk_X8_panesIn_12 rfl rfl ?_
      refine V_getNJ C 2 2 rfl (host := "DockTree") dX8_panesIn_9 o7 rfl hin_X8_panesIn_X7 (by decide) (by decide +kernel) rfl rfl rfl ?_
      refine V_icmp_ge C 39 dX8_panesIn_12 (by decide) (by omega) (by omega) (fun z => ?_) (fun z => ?_)
      · refine V_iload_n C dX8_panesIn_39 rfl ?_
        refine V_ireturn C E dX8_panesIn_40 (by omega) (by omega) ?_
        rw [e]; exact Dt_rfl
      · exact absurd z (by omega)
    | succ d ih =>
      intro j hj
      have hn1 : ((j + 1 : Nat) : Int) = (j : Int) + 1 := by omega
      have bj := piG_b (lay mu (c + 2)) s j
      have bs := stt_b (lay mu (c + 2)) j
      have h8 := ih (j + 1) (by omega)
      rw [hn1, piG] at h8
      refine V_iload_n C dX8_panesIn_4 rfl ?_
      refine V_aload_n C dX8_panesIn_5 rfl ?_
      refine V_getR C 0 dX8_panesIn_6 o8 rfl hin_X8_panesIn_X8 (by decide) lk_X8_panesIn_12 rfl rfl ?_
      refine V_getNJ C 2 2 rfl (host := "DockTree") dX8_panesIn_9 o7 rfl hin_X8_panesIn_X7 (by decide) (by decide +kernel) rfl rfl rfl ?_
      refine V_icmp_ge C 39 dX8_panesIn_12 (by decide) (by omega) (by omega) (fun z => ?_) (fun z => ?_)
      · exact absurd z (by omega)
      · refine V_aload_n C dX8_panesIn_15 rfl ?_
        refine V_getR C 0 dX8_panesIn_16 o8 rfl hin_X8_panesIn_X8 (by decide) lk_X8_panesIn_12 rfl rfl ?_
        refine V_getNR C 4 (host := "DockTree") dX8_panesIn_19 o7 rfl hin_X8_panesIn_X7 (by decide) (by decide +kernel) rfl rfl ?_
        refine V_iload_n C dX8_panesIn_22 rfl ?_
        have hst := c_stateOf (l := xL X) (n := n) (mu := mu) (la := la) (p := (j : Int)) C.gp hD.2.1.2.2.1 hB (by omega) (by omega)
        rw [putL_lay] at hst
        refine V_callVD (nA := 1) C dX8_panesIn_23 (hst) gX8_panesIn_X4_stateOf rfl o4 rfl (by decide +kernel) rfl (by decide) (by decide) (Nat.le_of_ble_eq_true rfl) ⟨by omega, by omega⟩ rfl ?_
        refine V_iload_n C dX8_panesIn_26 rfl ?_
        refine V_icmp_ne C 33 dX8_panesIn_27 (by decide) (by omega) (by omega) (fun z2 => ?_) (fun z2 => ?_)
        · rw [if_neg z2] at h8
          refine V_iinc C dX8_panesIn_33 rfl rfl (by decide) ?_
          refine V_goto C 4 dX8_panesIn_36 (by decide) ?_
          exact h8
        · rw [if_pos z2] at h8
          refine V_iinc C dX8_panesIn_30 rfl rfl (by decide) ?_
          refine V_iinc C dX8_panesIn_33 rfl rfl (by decide) ?_
          refine V_goto C 4 dX8_panesIn_36 (by decide) ?_
          exact h8
  refine V_iconst C dX8_panesIn_0 ?_
  refine V_istore_n C dX8_panesIn_1 rfl (by decide) ?_
  refine V_iconst C dX8_panesIn_2 ?_
  refine V_istore_n C dX8_panesIn_3 rfl (by decide) ?_
  exact loop (mu c 2).toNat 0 (by omega)
def vgF (L P : Mem) (x g w : Int) : Int := if w = 3 then gK P 5 98 (2 * g + 0) else if w = 4 then gK P 5 98 (2 * g + 1) + 1 else if w = 5 then gK P 6 98 (2 * g + 0) else if w = 6 then rbF P g else if w = 7 then (if gL L 4 (g - 16) = x then 1 else 0) else
  if w = 8 then gL L 1 x else if w = 9 then gL L 2 g else if w = 10 then (if spF (gL L 0 g) = 1 then gL L 3 g else -1) else gK P 7 49 g
theorem vg_3 (L P : Mem) (x g : Int) : vgF L P x g 3 = gK P 5 98 (2 * g + 0) := by simp [vgF]
theorem vg_4 (L P : Mem) (x g : Int) : vgF L P x g 4 = gK P 5 98 (2 * g + 1) + 1 := by simp [vgF]
theorem vg_5 (L P : Mem) (x g : Int) : vgF L P x g 5 = gK P 6 98 (2 * g + 0) := by simp [vgF]
theorem vg_6 (L P : Mem) (x g : Int) : vgF L P x g 6 = rbF P g := by simp [vgF]
theorem vg_7 (L P : Mem) (x g : Int) : vgF L P x g 7 = (if gL L 4 (g - 16) = x then 1 else 0) := by simp [vgF]
theorem vg_8 (L P : Mem) (x g : Int) : vgF L P x g 8 = gL L 1 x := by simp [vgF]
theorem vg_9 (L P : Mem) (x g : Int) : vgF L P x g 9 = gL L 2 g := by simp [vgF]
theorem vg_10 (L P : Mem) (x g : Int) : vgF L P x g 10 = (if spF (gL L 0 g) = 1 then gL L 3 g else -1) := by simp [vgF]
theorem vg_11 (L P : Mem) (x g : Int) : vgF L P x g 11 = gK P 7 49 g := by simp [vgF]
set_option maxRecDepth 20000 in
theorem ggX8_valueInGroup_X5_startOf : GoodIn wsX8_valueInGroup wsX5_startOf := goodIn_r _ [7, 8, 9, 10, 11, 73, 74, 75, 76, 77, 78, 79, 80, 81, 82, 83, 84, 85] (by decide +kernel) (by decide +kernel)
set_option maxRecDepth 20000 in
theorem gX8_valueInGroup_X5_startOf : GoodIn wsX8_valueInGroup (wsV RX8 324 RX5 yX5_startOf wsX5_startOf) := goodIn_app (goodIn_of _ (by decide +kernel)) ggX8_valueInGroup_X5_startOf
set_option maxRecDepth 20000 in
theorem ggX8_valueInGroup_X5_sizeOf : GoodIn wsX8_valueInGroup wsX5_sizeOf := goodIn_r _ [15, 16, 9, 10, 11, 73, 74, 75, 76, 77, 78, 79, 80, 81, 82, 83, 84, 85] (by decide +kernel) (by decide +kernel)
set_option maxRecDepth 20000 in
theorem gX8_valueInGroup_X5_sizeOf : GoodIn wsX8_valueInGroup (wsV RX8 179 RX5 yX5_sizeOf wsX5_sizeOf) := goodIn_app (goodIn_of _ (by decide +kernel)) ggX8_valueInGroup_X5_sizeOf
set_option maxRecDepth 20000 in
theorem ggX8_valueInGroup_X5_rowsBelowTabs : GoodIn wsX8_valueInGroup wsX5_rowsBelowTabs := goodIn_r _ [20, 21, 22, 23, 24, 25, 13, 14, 6, 15, 16, 9, 10, 11, 73, 74, 75, 76, 77, 78, 79, 80, 81, 82, 83, 84, 85] (by decide +kernel) (by decide +kernel)
set_option maxRecDepth 20000 in
theorem gX8_valueInGroup_X5_rowsBelowTabs : GoodIn wsX8_valueInGroup (wsV RX8 321 RX5 yX5_rowsBelowTabs wsX5_rowsBelowTabs) := goodIn_app (goodIn_of _ (by decide +kernel)) ggX8_valueInGroup_X5_rowsBelowTabs
set_option maxRecDepth 20000 in
theorem ggX8_valueInGroup_X4_activeOf : GoodIn wsX8_valueInGroup wsX4_activeOf := goodIn_r _ [30, 31, 9, 10, 11, 86, 87, 88, 89, 90, 91, 92, 93] (by decide +kernel) (by decide +kernel)
set_option maxRecDepth 20000 in
theorem gX8_valueInGroup_X4_activeOf : GoodIn wsX8_valueInGroup (wsV RX8 146 RX4 yX4_activeOf wsX4_activeOf) := goodIn_app (goodIn_of _ (by decide +kernel)) ggX8_valueInGroup_X4_activeOf
set_option maxRecDepth 20000 in
theorem ggX8_valueInGroup_X4_placeOf : GoodIn wsX8_valueInGroup wsX4_placeOf := goodIn_r _ [35, 36, 9, 10, 11, 86, 87, 88, 89, 90, 91, 92, 93] (by decide +kernel) (by decide +kernel)
set_option maxRecDepth 20000 in
theorem gX8_valueInGroup_X4_placeOf : GoodIn wsX8_valueInGroup (wsV RX8 155 RX4 yX4_placeOf wsX4_placeOf) := goodIn_app (goodIn_of _ (by decide +kernel)) ggX8_valueInGroup_X4_placeOf
set_option maxRecDepth 20000 in
theorem ggX8_valueInGroup_X4_countOf : GoodIn wsX8_valueInGroup wsX4_countOf := goodIn_r _ [40, 41, 9, 10, 11, 86, 87, 88, 89, 90, 91, 92, 93] (by decide +kernel) (by decide +kernel)
set_option maxRecDepth 20000 in
theorem gX8_valueInGroup_X4_countOf : GoodIn wsX8_valueInGroup (wsV RX8 107 RX4 yX4_countOf wsX4_countOf) := goodIn_app (goodIn_of _ (by decide +kernel)) ggX8_valueInGroup_X4_countOf
set_option maxRecDepth 20000 in
theorem ggX8_valueInGroup_X4_holderOf : GoodIn wsX8_valueInGroup wsX4_holderOf := goodIn_r _ [45, 46, 9, 10, 11, 86, 87, 88, 89, 90, 91, 92, 93] (by decide +kernel) (by decide +kernel)
set_option maxRecDepth 20000 in
theorem gX8_valueInGroup_X4_holderOf : GoodIn wsX8_valueInGroup (wsV RX8 103 RX4 yX4_holderOf wsX4_holderOf) := goodIn_app (goodIn_of _ (by decide +kernel)) ggX8_valueInGroup_X4_holderOf
set_option maxRecDepth 20000 in
theorem ggX8_valueInGroup_X8_isSplit : GoodIn wsX8_valueInGroup wsX8_isSplit := goodIn_r _ [49] (by decide +kernel) (by decide +kernel)
set_option maxRecDepth 20000 in
theorem gX8_valueInGroup_X8_isSplit : GoodIn wsX8_valueInGroup (va_wsS RX8 209 yX8_isSplit wsX8_isSplit) := goodIn_app (goodIn_of _ (by decide +kernel)) ggX8_valueInGroup_X8_isSplit
set_option maxRecDepth 20000 in
theorem ggX8_valueInGroup_X4_weightOf : GoodIn wsX8_valueInGroup wsX4_weightOf := goodIn_r _ [53, 54, 9, 10, 11, 86, 87, 88, 89, 90, 91, 92, 93] (by decide +kernel) (by decide +kernel)
set_option maxRecDepth 20000 in
theorem gX8_valueInGroup_X4_weightOf : GoodIn wsX8_valueInGroup (wsV RX8 164 RX4 yX4_weightOf wsX4_weightOf) := goodIn_app (goodIn_of _ (by decide +kernel)) ggX8_valueInGroup_X4_weightOf
set_option maxRecDepth 20000 in
theorem ggX8_valueInGroup_X5_depthOf : GoodIn wsX8_valueInGroup wsX5_depthOf := goodIn_r _ [58, 59, 9, 10, 11, 73, 74, 75, 76, 77, 78, 79, 80, 81, 82, 83, 84, 85] (by decide +kernel) (by decide +kernel)
set_option maxRecDepth 20000 in
theorem gX8_valueInGroup_X5_depthOf : GoodIn wsX8_valueInGroup (wsV RX8 327 RX5 yX5_depthOf wsX5_depthOf) := goodIn_app (goodIn_of _ (by decide +kernel)) ggX8_valueInGroup_X5_depthOf
theorem dX8_valueInGroup_0 : decode cX8_valueInGroup 0 = .ok (.iload_n 3, 1) := by decide +kernel
theorem dX8_valueInGroup_1 : decode cX8_valueInGroup 1 = .ok (.tableswitch 166 3 10 #[47, 57, 69, 79, 88, 109, 121, 133], 47) := by decide +kernel
theorem dX8_valueInGroup_48 : decode cX8_valueInGroup 48 = .ok (.aload_n 0, 1) := by decide +kernel
theorem dX8_valueInGroup_49 : decode cX8_valueInGroup 49 = .ok (.getfield 33, 3) := by decide +kernel
theorem dX8_valueInGroup_52 : decode cX8_valueInGroup 52 = .ok (.iload_n 2, 1) := by decide +kernel
theorem dX8_valueInGroup_53 : decode cX8_valueInGroup 53 = .ok (.iconst 0, 1) := by decide +kernel
theorem dX8_valueInGroup_54 : decode cX8_valueInGroup 54 = .ok (.invokevirtual 324, 3) := by decide +kernel
theorem dX8_valueInGroup_57 : decode cX8_valueInGroup 57 = .ok (.ireturn, 1) := by decide +kernel
theorem dX8_valueInGroup_58 : decode cX8_valueInGroup 58 = .ok (.aload_n 0, 1) := by decide +kernel
theorem dX8_valueInGroup_59 : decode cX8_valueInGroup 59 = .ok (.getfield 33, 3) := by decide +kernel
theorem dX8_valueInGroup_62 : decode cX8_valueInGroup 62 = .ok (.iload_n 2, 1) := by decide +kernel
theorem dX8_valueInGroup_63 : decode cX8_valueInGroup 63 = .ok (.iconst 1, 1) := by decide +kernel
theorem dX8_valueInGroup_64 : decode cX8_valueInGroup 64 = .ok (.invokevirtual 324, 3) := by decide +kernel
theorem dX8_valueInGroup_67 : decode cX8_valueInGroup 67 = .ok (.iconst 1, 1) := by decide +kernel
theorem dX8_valueInGroup_68 : decode cX8_valueInGroup 68 = .ok (.iadd, 1) := by decide +kernel
theorem dX8_valueInGroup_69 : decode cX8_valueInGroup 69 = .ok (.ireturn, 1) := by decide +kernel
theorem dX8_valueInGroup_70 : decode cX8_valueInGroup 70 = .ok (.aload_n 0, 1) := by decide +kernel
theorem dX8_valueInGroup_71 : decode cX8_valueInGroup 71 = .ok (.getfield 33, 3) := by decide +kernel
theorem dX8_valueInGroup_74 : decode cX8_valueInGroup 74 = .ok (.iload_n 2, 1) := by decide +kernel
theorem dX8_valueInGroup_75 : decode cX8_valueInGroup 75 = .ok (.iconst 0, 1) := by decide +kernel
theorem dX8_valueInGroup_76 : decode cX8_valueInGroup 76 = .ok (.invokevirtual 179, 3) := by decide +kernel
theorem dX8_valueInGroup_79 : decode cX8_valueInGroup 79 = .ok (.ireturn, 1) := by decide +kernel
theorem dX8_valueInGroup_80 : decode cX8_valueInGroup 80 = .ok (.aload_n 0, 1) := by decide +kernel
theorem dX8_valueInGroup_81 : decode cX8_valueInGroup 81 = .ok (.getfield 33, 3) := by decide +kernel
theorem dX8_valueInGroup_84 : decode cX8_valueInGroup 84 = .ok (.iload_n 2, 1) := by decide +kernel
theorem dX8_valueInGroup_85 : decode cX8_valueInGroup 85 = .ok (.invokevirtual 321, 3) := by decide +kernel
theorem dX8_valueInGroup_88 : decode cX8_valueInGroup 88 = .ok (.ireturn, 1) := by decide +kernel
theorem dX8_valueInGroup_89 : decode cX8_valueInGroup 89 = .ok (.aload_n 0, 1) := by decide +kernel
theorem dX8_valueInGroup_90 : decode cX8_valueInGroup 90 = .ok (.getfield 12, 3) := by decide +kernel
theorem dX8_valueInGroup_93 : decode cX8_valueInGroup 93 = .ok (.getfield 97, 3) := by decide +kernel
theorem dX8_valueInGroup_96 : decode cX8_valueInGroup 96 = .ok (.iload_n 2, 1) := by decide +kernel
theorem dX8_valueInGroup_97 : decode cX8_valueInGroup 97 = .ok (.invokevirtual 146, 3) := by decide +kernel
theorem dX8_valueInGroup_100 : decode cX8_valueInGroup 100 = .ok (.iload_n 1, 1) := by decide +kernel
theorem dX8_valueInGroup_101 : decode cX8_valueInGroup 101 = .ok (.if_icmp .ne 7, 3) := by decide +kernel
theorem dX8_valueInGroup_104 : decode cX8_valueInGroup 104 = .ok (.iconst 1, 1) := by decide +kernel
theorem dX8_valueInGroup_105 : decode cX8_valueInGroup 105 = .ok (.goto 4, 3) := by decide +kernel
theorem dX8_valueInGroup_108 : decode cX8_valueInGroup 108 = .ok (.iconst 0, 1) := by decide +kernel
theorem dX8_valueInGroup_109 : decode cX8_valueInGroup 109 = .ok (.ireturn, 1) := by decide +kernel
theorem dX8_valueInGroup_110 : decode cX8_valueInGroup 110 = .ok (.aload_n 0, 1) := by decide +kernel
theorem dX8_valueInGroup_111 : decode cX8_valueInGroup 111 = .ok (.getfield 12, 3) := by decide +kernel
theorem dX8_valueInGroup_114 : decode cX8_valueInGroup 114 = .ok (.getfield 97, 3) := by decide +kernel
theorem dX8_valueInGroup_117 : decode cX8_valueInGroup 117 = .ok (.iload_n 1, 1) := by decide +kernel
theorem dX8_valueInGroup_118 : decode cX8_valueInGroup 118 = .ok (.invokevirtual 155, 3) := by decide +kernel
theorem dX8_valueInGroup_121 : decode cX8_valueInGroup 121 = .ok (.ireturn, 1) := by decide +kernel
theorem dX8_valueInGroup_122 : decode cX8_valueInGroup 122 = .ok (.aload_n 0, 1) := by decide +kernel
theorem dX8_valueInGroup_123 : decode cX8_valueInGroup 123 = .ok (.getfield 12, 3) := by decide +kernel
theorem dX8_valueInGroup_126 : decode cX8_valueInGroup 126 = .ok (.getfield 97, 3) := by decide +kernel
theorem dX8_valueInGroup_129 : decode cX8_valueInGroup 129 = .ok (.iload_n 2, 1) := by decide +kernel
theorem dX8_valueInGroup_130 : decode cX8_valueInGroup 130 = .ok (.invokevirtual 107, 3) := by decide +kernel
theorem dX8_valueInGroup_133 : decode cX8_valueInGroup 133 = .ok (.ireturn, 1) := by decide +kernel
theorem dX8_valueInGroup_134 : decode cX8_valueInGroup 134 = .ok (.aload_n 0, 1) := by decide +kernel
theorem dX8_valueInGroup_135 : decode cX8_valueInGroup 135 = .ok (.getfield 12, 3) := by decide +kernel
theorem dX8_valueInGroup_138 : decode cX8_valueInGroup 138 = .ok (.getfield 97, 3) := by decide +kernel
theorem dX8_valueInGroup_141 : decode cX8_valueInGroup 141 = .ok (.iload_n 2, 1) := by decide +kernel
theorem dX8_valueInGroup_142 : decode cX8_valueInGroup 142 = .ok (.invokevirtual 103, 3) := by decide +kernel
theorem dX8_valueInGroup_145 : decode cX8_valueInGroup 145 = .ok (.invokestatic 209, 3) := by decide +kernel
theorem dX8_valueInGroup_148 : decode cX8_valueInGroup 148 = .ok (.ifCond .eq 17, 3) := by decide +kernel
theorem dX8_valueInGroup_151 : decode cX8_valueInGroup 151 = .ok (.aload_n 0, 1) := by decide +kernel
theorem dX8_valueInGroup_152 : decode cX8_valueInGroup 152 = .ok (.getfield 12, 3) := by decide +kernel
theorem dX8_valueInGroup_155 : decode cX8_valueInGroup 155 = .ok (.getfield 97, 3) := by decide +kernel
theorem dX8_valueInGroup_158 : decode cX8_valueInGroup 158 = .ok (.iload_n 2, 1) := by decide +kernel
theorem dX8_valueInGroup_159 : decode cX8_valueInGroup 159 = .ok (.invokevirtual 164, 3) := by decide +kernel
theorem dX8_valueInGroup_162 : decode cX8_valueInGroup 162 = .ok (.goto 4, 3) := by decide +kernel
theorem dX8_valueInGroup_165 : decode cX8_valueInGroup 165 = .ok (.iconst (-1), 1) := by decide +kernel
theorem dX8_valueInGroup_166 : decode cX8_valueInGroup 166 = .ok (.ireturn, 1) := by decide +kernel
theorem dX8_valueInGroup_167 : decode cX8_valueInGroup 167 = .ok (.aload_n 0, 1) := by decide +kernel
theorem dX8_valueInGroup_168 : decode cX8_valueInGroup 168 = .ok (.getfield 33, 3) := by decide +kernel
theorem dX8_valueInGroup_171 : decode cX8_valueInGroup 171 = .ok (.iload_n 2, 1) := by decide +kernel
theorem dX8_valueInGroup_172 : decode cX8_valueInGroup 172 = .ok (.invokevirtual 327, 3) := by decide +kernel
theorem dX8_valueInGroup_175 : decode cX8_valueInGroup 175 = .ok (.ireturn, 1) := by decide +kernel
theorem hin_X8_valueInGroup_X8 : ∀ w ∈ wsX80, w ∈ wsX8_valueInGroup := by decide +kernel
theorem lk_X8_valueInGroup_33 : Cond.fieldLink RX8 33 RX8 "plan" "LDockTree$Plan;" ∈ wsX8_valueInGroup := by decide +kernel
theorem lk_X8_valueInGroup_12 : Cond.fieldLink RX8 12 RX8 "now" "LDockTree$State;" ∈ wsX8_valueInGroup := by decide +kernel
theorem hin_X8_valueInGroup_X7 : ∀ w ∈ wsX70, w ∈ wsX8_valueInGroup := by decide +kernel
theorem k_valueInGroup (hG : GP G) (hD : DoS S a c h t p b q) (hW : Wo mu c h t p) {x g w : Int} (hx : -2147483648 ≤ x ∧ x ≤ 2147483647) (hw : 3 ≤ w ∧ w ≤ 11) : Ct G l yX8_valueInGroup wsX8_valueInGroup 3 0 0 [.ref a, .int (I32 x), .int (I32 g), .int (I32 w)] S n mu la (Dt (some (.int (I32 (vgF (lay mu (c + 2)) (pl mu p) x g w)))) S n mu la) := by
  have o8 := hD.1
  have o7 := hD.2.1.1
  have o5 := hD.2.2.2.2.1.1
  have o4 := hD.2.1.2.2.1.1
  have b1 := gL_bd hW.2.1 (by omega) 0 g
  have b2 := spF_b (gL (lay mu (c + 2)) 0 g)
  have b3 := gL_bd hW.2.1 (by omega) 4 (g - 16)
  refine Ct.ofV (cc := cX8_valueInGroup) (nL := 4) (ret := (some .int)) [some (.ref a), some (.int (I32 x)), some (.int (I32 g)), some (.int (I32 w))] hG (by decide) rfl (Nat.le_of_ble_eq_true rfl) rfl ?_
  rintro X rfl rfl C hcl hsl E
  have hw9 : w = 3 ∨ w = 4 ∨ w = 5 ∨ w = 6 ∨ w = 7 ∨ w = 8 ∨ w = 9 ∨ w = 10 ∨ w = 11 := by omega
  rcases hw9 with rfl | rfl | rfl | rfl | rfl | rfl | rfl | rfl | rfl
  · refine V_iload_n C dX8_valueInGroup_0 rfl ?_
    refine V_tableIn C 48 dX8_valueInGroup_1 (by omega) (by omega) (by omega) rfl (by decide) ?_
    refine V_aload_n C dX8_valueInGroup_48 rfl ?_
    refine V_getR C 3 dX8_valueInGroup_49 o8 rfl hin_X8_valueInGroup_X8 (by decide) lk_X8_valueInGroup_33 rfl rfl ?_
    refine V_iload_n C dX8_valueInGroup_52 rfl ?_
    refine V_iconst C dX8_valueInGroup_53 ?_
    refine V_callVD (nA := 2) C dX8_valueInGroup_54 (w_startOf C.gp hD.2.2.2.2.1) gX8_valueInGroup_X5_startOf rfl o5 rfl (by decide +kernel) rfl (by decide) (by decide) (Nat.le_of_ble_eq_true rfl) ⟨by omega, by omega⟩ rfl ?_
    refine V_ireturn C E dX8_valueInGroup_57 (by omega) (by omega) ?_
    rw [vg_3]
    exact Dt_int (by (repeat' split) <;> omega)
  · refine V_iload_n C dX8_valueInGroup_0 rfl ?_
    refine V_tableIn C 58 dX8_valueInGroup_1 (by omega) (by omega) (by omega) rfl (by decide) ?_
    refine V_aload_n C dX8_valueInGroup_58 rfl ?_
    refine V_getR C 3 dX8_valueInGroup_59 o8 rfl hin_X8_valueInGroup_X8 (by decide) lk_X8_valueInGroup_33 rfl rfl ?_
    refine V_iload_n C dX8_valueInGroup_62 rfl ?_
    refine V_iconst C dX8_valueInGroup_63 ?_
    refine V_callVD (nA := 2) C dX8_valueInGroup_64 (w_startOf C.gp hD.2.2.2.2.1) gX8_valueInGroup_X5_startOf rfl o5 rfl (by decide +kernel) rfl (by decide) (by decide) (Nat.le_of_ble_eq_true rfl) ⟨by omega, by omega⟩ rfl ?_
    refine V_iconst C dX8_valueInGroup_67 ?_
    refine V_iadd C dX8_valueInGroup_68 ?_
    refine V_ireturn C E dX8_valueInGroup_69 (by omega) (by omega) ?_
    rw [vg_4]
    exact Dt_int (by (repeat' split) <;> omega)
  · refine V_iload_n C dX8_valueInGroup_0 rfl ?_
    refine V_tableIn C 70 dX8_valueInGroup_1 (by omega) (by omega) (by omega) rfl (by decide) ?_
    refine V_aload_n C dX8_valueInGroup_70 rfl ?_
    refine V_getR C 3 dX8_valueInGroup_71 o8 rfl hin_X8_valueInGroup_X8 (by decide) lk_X8_valueInGroup_33 rfl rfl ?_
    refine V_iload_n C dX8_valueInGroup_74 rfl ?_
    refine V_iconst C dX8_valueInGroup_75 ?_
    refine V_callVD (nA := 2) C dX8_valueInGroup_76 (w_sizeOf C.gp hD.2.2.2.2.1) gX8_valueInGroup_X5_sizeOf rfl o5 rfl (by decide +kernel) rfl (by decide) (by decide) (Nat.le_of_ble_eq_true rfl) ⟨by omega, by omega⟩ rfl ?_
    refine V_ireturn C E dX8_valueInGroup_79 (by omega) (by omega) ?_
    rw [vg_5]
    exact Dt_int (by (repeat' split) <;> omega)
  · refine V_iload_n C dX8_valueInGroup_0 rfl ?_
    refine V_tableIn C 80 dX8_valueInGroup_1 (by omega) (by omega) (by omega) rfl (by decide) ?_
    refine V_aload_n C dX8_valueInGroup_80 rfl ?_
    refine V_getR C 3 dX8_valueInGroup_81 o8 rfl hin_X8_valueInGroup_X8 (by decide) lk_X8_valueInGroup_33 rfl rfl ?_
    refine V_iload_n C dX8_valueInGroup_84 rfl ?_
    refine V_callVD (nA := 1) C dX8_valueInGroup_85 (w_rowsBelowTabs C.gp hD.2.2.2.2.1) gX8_valueInGroup_X5_rowsBelowTabs rfl o5 rfl (by decide +kernel) rfl (by decide) (by decide) (Nat.le_of_ble_eq_true rfl) ⟨by omega, by omega⟩ rfl ?_
    refine V_ireturn C E dX8_valueInGroup_88 (by omega) (by omega) ?_
    rw [vg_6]
    exact Dt_int (by (repeat' split) <;> omega)
  · refine V_iload_n C dX8_valueInGroup_0 rfl ?_
    refine V_tableIn C 89 dX8_valueInGroup_1 (by omega) (by omega) (by omega) rfl (by decide) ?_
    refine V_aload_n C dX8_valueInGroup_89 rfl ?_
    refine V_getR C 0 dX8_valueInGroup_90 o8 rfl hin_X8_valueInGroup_X8 (by decide) lk_X8_valueInGroup_12 rfl rfl ?_
    refine V_getNR C 4 (host := "DockTree") dX8_valueInGroup_93 o7 rfl hin_X8_valueInGroup_X7 (by decide) (by decide +kernel) rfl rfl ?_
    refine V_iload_n C dX8_valueInGroup_96 rfl ?_
    refine V_callVD (nA := 1) C dX8_valueInGroup_97 (w_activeOf C.gp hD.2.1.2.2.1) gX8_valueInGroup_X4_activeOf rfl o4 rfl (by decide +kernel) rfl (by decide) (by decide) (Nat.le_of_ble_eq_true rfl) ⟨by omega, by omega⟩ rfl ?_
    refine V_iload_n C dX8_valueInGroup_100 rfl ?_
    refine V_icmp_ne C 108 dX8_valueInGroup_101 (by decide) (by omega) (by omega) (fun z101 => ?_) (fun z101 => ?_)
    · refine V_iconst C dX8_valueInGroup_108 ?_
      refine V_ireturn C E dX8_valueInGroup_109 (by omega) (by omega) ?_
      rw [vg_7]
      exact Dt_int (by (repeat' split) <;> omega)
    · refine V_iconst C dX8_valueInGroup_104 ?_
      refine V_goto C 109 dX8_valueInGroup_105 (by decide) ?_
      refine V_ireturn C E dX8_valueInGroup_109 (by omega) (by omega) ?_
      rw [vg_7]
      exact Dt_int (by (repeat' split) <;> omega)
  · refine V_iload_n C dX8_valueInGroup_0 rfl ?_
    refine V_tableIn C 110 dX8_valueInGroup_1 (by omega) (by omega) (by omega) rfl (by decide) ?_
    refine V_aload_n C dX8_valueInGroup_110 rfl ?_
    refine V_getR C 0 dX8_valueInGroup_111 o8 rfl hin_X8_valueInGroup_X8 (by decide) lk_X8_valueInGroup_12 rfl rfl ?_
    refine V_getNR C 4 (host := "DockTree") dX8_valueInGroup_114 o7 rfl hin_X8_valueInGroup_X7 (by decide) (by decide +kernel) rfl rfl ?_
    refine V_iload_n C dX8_valueInGroup_117 rfl ?_
    refine V_callVD (nA := 1) C dX8_valueInGroup_118 (w_placeOf C.gp hD.2.1.2.2.1) gX8_valueInGroup_X4_placeOf rfl o4 rfl (by decide +kernel) rfl (by decide) (by decide) (Nat.le_of_ble_eq_true rfl) ⟨by omega, by omega⟩ rfl ?_
    refine V_ireturn C E dX8_valueInGroup_121 (by omega) (by omega) ?_
    rw [vg_8]
    exact Dt_int (by (repeat' split) <;> omega)
  · refine V_iload_n C dX8_valueInGroup_0 rfl ?_
    refine V_tableIn C 122 dX8_valueInGroup_1 (by omega) (by omega) (by omega) rfl (by decide) ?_
    refine V_aload_n C dX8_valueInGroup_122 rfl ?_
    refine V_getR C 0 dX8_valueInGroup_123 o8 rfl hin_X8_valueInGroup_X8 (by decide) lk_X8_valueInGroup_12 rfl rfl ?_
    refine V_getNR C 4 (host := "DockTree") dX8_valueInGroup_126 o7 rfl hin_X8_valueInGroup_X7 (by decide) (by decide +kernel) rfl rfl ?_
    refine V_iload_n C dX8_valueInGroup_129 rfl ?_
    refine V_callVD (nA := 1) C dX8_valueInGroup_130 (w_countOf C.gp hD.2.1.2.2.1) gX8_valueInGroup_X4_countOf rfl o4 rfl (by decide +kernel) rfl (by decide) (by decide) (Nat.le_of_ble_eq_true rfl) ⟨by omega, by omega⟩ rfl ?_
    refine V_ireturn C E dX8_valueInGroup_133 (by omega) (by omega) ?_
    rw [vg_9]
    exact Dt_int (by (repeat' split) <;> omega)
  · refine V_iload_n C dX8_valueInGroup_0 rfl ?_
    refine V_tableIn C 134 dX8_valueInGroup_1 (by omega) (by omega) (by omega) rfl (by decide) ?_
    refine V_aload_n C dX8_valueInGroup_134 rfl ?_
    refine V_getR C 0 dX8_valueInGroup_135 o8 rfl hin_X8_valueInGroup_X8 (by decide) lk_X8_valueInGroup_12 rfl rfl ?_
    refine V_getNR C 4 (host := "DockTree") dX8_valueInGroup_138 o7 rfl hin_X8_valueInGroup_X7 (by decide) (by decide +kernel) rfl rfl ?_
    refine V_iload_n C dX8_valueInGroup_141 rfl ?_
    refine V_callVD (nA := 1) C dX8_valueInGroup_142 (w_holderOf C.gp hD.2.1.2.2.1) gX8_valueInGroup_X4_holderOf rfl o4 rfl (by decide +kernel) rfl (by decide) (by decide) (Nat.le_of_ble_eq_true rfl) ⟨by omega, by omega⟩ rfl ?_
    refine V_callSD (nA := 1) C dX8_valueInGroup_145 (c_isSplit C.gp (by omega)) gX8_valueInGroup_X8_isSplit rfl (by decide +kernel) rfl (by decide) (by decide) (Nat.le_of_ble_eq_true rfl) ⟨by omega, by omega⟩ rfl ?_
    refine V_if_eq C 165 dX8_valueInGroup_148 (by decide) (by omega) (fun z148 => ?_) (fun z148 => ?_)
    · refine V_iconst C dX8_valueInGroup_165 ?_
      refine V_ireturn C E dX8_valueInGroup_166 (by omega) (by omega) ?_
      rw [vg_10]
      exact Dt_int (by (repeat' split) <;> omega)
    · refine V_aload_n C dX8_valueInGroup_151 rfl ?_
      refine V_getR C 0 dX8_valueInGroup_152 o8 rfl hin_X8_valueInGroup_X8 (by decide) lk_X8_valueInGroup_12 rfl rfl ?_
      refine V_getNR C 4 (host := "DockTree") dX8_valueInGroup_155 o7 rfl hin_X8_valueInGroup_X7 (by decide) (by decide +kernel) rfl rfl ?_
      refine V_iload_n C dX8_valueInGroup_158 rfl ?_
      refine V_callVD (nA := 1) C dX8_valueInGroup_159 (w_weightOf C.gp hD.2.1.2.2.1) gX8_valueInGroup_X4_weightOf rfl o4 rfl (by decide +kernel) rfl (by decide) (by decide) (Nat.le_of_ble_eq_true rfl) ⟨by omega, by omega⟩ rfl ?_
      refine V_goto C 166 dX8_valueInGroup_162 (by decide) ?_
      refine V_ireturn C E dX8_valueInGroup_166 (by omega) (by omega) ?_
      rw [vg_10]
      exact Dt_int (by (repeat' split) <;> omega)
  · refine V_iload_n C dX8_valueInGroup_0 rfl ?_
    refine V_tableOut C 167 dX8_valueInGroup_1 (by omega) (by omega) (by decide) ?_
    refine V_aload_n C dX8_valueInGroup_167 rfl ?_
    refine V_getR C 3 dX8_valueInGroup_168 o8 rfl hin_X8_valueInGroup_X8 (by decide) lk_X8_valueInGroup_33 rfl rfl ?_
    refine V_iload_n C dX8_valueInGroup_171 rfl ?_
    refine V_callVD (nA := 1) C dX8_valueInGroup_172 (w_depthOf C.gp hD.2.2.2.2.1) gX8_valueInGroup_X5_depthOf rfl o5 rfl (by decide +kernel) rfl (by decide) (by decide) (Nat.le_of_ble_eq_true rfl) ⟨by omega, by omega⟩ rfl ?_
    refine V_ireturn C E dX8_valueInGroup_175 (by omega) (by omega) ?_
    rw [vg_11]
    exact Dt_int (by (repeat' split) <;> omega)
def vsF (L P : Mem) (s u w : Int) : Int := if w = 0 then (if gL L 5 (s - 32) = 1 then 1 else 0) else if w = 1 then gL L 2 s else if w = 2 then gL L 1 u else if w = 3 then gK P 4 98 (2 * s + 0) else if w = 4 then gK P 4 98 (2 * s + 1) else
  if w = 5 then gK P 6 98 (2 * s + 0) else if w = 6 then gK P 6 98 (2 * s + 1) else tiF P s
theorem vs_0 (L P : Mem) (s u : Int) : vsF L P s u 0 = (if gL L 5 (s - 32) = 1 then 1 else 0) := by simp [vsF]
theorem vs_1 (L P : Mem) (s u : Int) : vsF L P s u 1 = gL L 2 s := by simp [vsF]
theorem vs_2 (L P : Mem) (s u : Int) : vsF L P s u 2 = gL L 1 u := by simp [vsF]
theorem vs_3 (L P : Mem) (s u : Int) : vsF L P s u 3 = gK P 4 98 (2 * s + 0) := by simp [vsF]
theorem vs_4 (L P : Mem) (s u : Int) : vsF L P s u 4 = gK P 4 98 (2 * s + 1) := by simp [vsF]
theorem vs_5 (L P : Mem) (s u : Int) : vsF L P s u 5 = gK P 6 98 (2 * s + 0) := by simp [vsF]
theorem vs_6 (L P : Mem) (s u : Int) : vsF L P s u 6 = gK P 6 98 (2 * s + 1) := by simp [vsF]
theorem vs_7 (L P : Mem) (s u : Int) : vsF L P s u 7 = tiF P s := by simp [vsF]
set_option maxRecDepth 20000 in
theorem ggX8_valueOfSplit_X4_axisOf : GoodIn wsX8_valueOfSplit wsX4_axisOf := goodIn_r _ [7, 8, 9, 10, 11, 51, 52, 53, 54, 55, 56, 57, 58] (by decide +kernel) (by decide +kernel)
set_option maxRecDepth 20000 in
theorem gX8_valueOfSplit_X4_axisOf : GoodIn wsX8_valueOfSplit (wsV RX8 173 RX4 yX4_axisOf wsX4_axisOf) := goodIn_app (goodIn_of _ (by decide +kernel)) ggX8_valueOfSplit_X4_axisOf
set_option maxRecDepth 20000 in
theorem ggX8_valueOfSplit_X4_countOf : GoodIn wsX8_valueOfSplit wsX4_countOf := goodIn_r _ [15, 16, 9, 10, 11, 51, 52, 53, 54, 55, 56, 57, 58] (by decide +kernel) (by decide +kernel)
set_option maxRecDepth 20000 in
theorem gX8_valueOfSplit_X4_countOf : GoodIn wsX8_valueOfSplit (wsV RX8 107 RX4 yX4_countOf wsX4_countOf) := goodIn_app (goodIn_of _ (by decide +kernel)) ggX8_valueOfSplit_X4_countOf
set_option maxRecDepth 20000 in
theorem ggX8_valueOfSplit_X4_placeOf : GoodIn wsX8_valueOfSplit wsX4_placeOf := goodIn_r _ [20, 21, 9, 10, 11, 51, 52, 53, 54, 55, 56, 57, 58] (by decide +kernel) (by decide +kernel)
set_option maxRecDepth 20000 in
theorem gX8_valueOfSplit_X4_placeOf : GoodIn wsX8_valueOfSplit (wsV RX8 155 RX4 yX4_placeOf wsX4_placeOf) := goodIn_app (goodIn_of _ (by decide +kernel)) ggX8_valueOfSplit_X4_placeOf
set_option maxRecDepth 20000 in
theorem ggX8_valueOfSplit_X5_leastOf : GoodIn wsX8_valueOfSplit wsX5_leastOf := goodIn_r _ [26, 27, 9, 10, 11, 59, 60, 61, 62, 63, 64, 65, 66, 67, 68, 69, 70, 71] (by decide +kernel) (by decide +kernel)
set_option maxRecDepth 20000 in
theorem gX8_valueOfSplit_X5_leastOf : GoodIn wsX8_valueOfSplit (wsV RX8 330 RX5 yX5_leastOf wsX5_leastOf) := goodIn_app (goodIn_of _ (by decide +kernel)) ggX8_valueOfSplit_X5_leastOf
set_option maxRecDepth 20000 in
theorem ggX8_valueOfSplit_X5_sizeOf : GoodIn wsX8_valueOfSplit wsX5_sizeOf := goodIn_r _ [31, 32, 9, 10, 11, 59, 60, 61, 62, 63, 64, 65, 66, 67, 68, 69, 70, 71] (by decide +kernel) (by decide +kernel)
set_option maxRecDepth 20000 in
theorem gX8_valueOfSplit_X5_sizeOf : GoodIn wsX8_valueOfSplit (wsV RX8 179 RX5 yX5_sizeOf wsX5_sizeOf) := goodIn_app (goodIn_of _ (by decide +kernel)) ggX8_valueOfSplit_X5_sizeOf
set_option maxRecDepth 20000 in
theorem ggX8_valueOfSplit_X5_isTight : GoodIn wsX8_valueOfSplit wsX5_isTight := goodIn_r _ [36, 37, 9, 10, 11, 59, 60, 61, 62, 63, 64, 65, 66, 67, 68, 69, 70, 71] (by decide +kernel) (by decide +kernel)
set_option maxRecDepth 20000 in
theorem gX8_valueOfSplit_X5_isTight : GoodIn wsX8_valueOfSplit (wsV RX8 331 RX5 yX5_isTight wsX5_isTight) := goodIn_app (goodIn_of _ (by decide +kernel)) ggX8_valueOfSplit_X5_isTight
theorem dX8_valueOfSplit_0 : decode cX8_valueOfSplit 0 = .ok (.iload_n 3, 1) := by decide +kernel
theorem dX8_valueOfSplit_1 : decode cX8_valueOfSplit 1 = .ok (.tableswitch 128 0 6 #[43, 64, 76, 88, 98, 108, 118], 43) := by decide +kernel
theorem dX8_valueOfSplit_44 : decode cX8_valueOfSplit 44 = .ok (.aload_n 0, 1) := by decide +kernel
theorem dX8_valueOfSplit_45 : decode cX8_valueOfSplit 45 = .ok (.getfield 12, 3) := by decide +kernel
theorem dX8_valueOfSplit_48 : decode cX8_valueOfSplit 48 = .ok (.getfield 97, 3) := by decide +kernel
theorem dX8_valueOfSplit_51 : decode cX8_valueOfSplit 51 = .ok (.iload_n 1, 1) := by decide +kernel
theorem dX8_valueOfSplit_52 : decode cX8_valueOfSplit 52 = .ok (.invokevirtual 173, 3) := by decide +kernel
theorem dX8_valueOfSplit_55 : decode cX8_valueOfSplit 55 = .ok (.iconst 1, 1) := by decide +kernel
theorem dX8_valueOfSplit_56 : decode cX8_valueOfSplit 56 = .ok (.if_icmp .ne 7, 3) := by decide +kernel
theorem dX8_valueOfSplit_59 : decode cX8_valueOfSplit 59 = .ok (.iconst 1, 1) := by decide +kernel
theorem dX8_valueOfSplit_60 : decode cX8_valueOfSplit 60 = .ok (.goto 4, 3) := by decide +kernel
theorem dX8_valueOfSplit_63 : decode cX8_valueOfSplit 63 = .ok (.iconst 0, 1) := by decide +kernel
theorem dX8_valueOfSplit_64 : decode cX8_valueOfSplit 64 = .ok (.ireturn, 1) := by decide +kernel
theorem dX8_valueOfSplit_65 : decode cX8_valueOfSplit 65 = .ok (.aload_n 0, 1) := by decide +kernel
theorem dX8_valueOfSplit_66 : decode cX8_valueOfSplit 66 = .ok (.getfield 12, 3) := by decide +kernel
theorem dX8_valueOfSplit_69 : decode cX8_valueOfSplit 69 = .ok (.getfield 97, 3) := by decide +kernel
theorem dX8_valueOfSplit_72 : decode cX8_valueOfSplit 72 = .ok (.iload_n 1, 1) := by decide +kernel
theorem dX8_valueOfSplit_73 : decode cX8_valueOfSplit 73 = .ok (.invokevirtual 107, 3) := by decide +kernel
theorem dX8_valueOfSplit_76 : decode cX8_valueOfSplit 76 = .ok (.ireturn, 1) := by decide +kernel
theorem dX8_valueOfSplit_77 : decode cX8_valueOfSplit 77 = .ok (.aload_n 0, 1) := by decide +kernel
theorem dX8_valueOfSplit_78 : decode cX8_valueOfSplit 78 = .ok (.getfield 12, 3) := by decide +kernel
theorem dX8_valueOfSplit_81 : decode cX8_valueOfSplit 81 = .ok (.getfield 97, 3) := by decide +kernel
theorem dX8_valueOfSplit_84 : decode cX8_valueOfSplit 84 = .ok (.iload_n 2, 1) := by decide +kernel
theorem dX8_valueOfSplit_85 : decode cX8_valueOfSplit 85 = .ok (.invokevirtual 155, 3) := by decide +kernel
theorem dX8_valueOfSplit_88 : decode cX8_valueOfSplit 88 = .ok (.ireturn, 1) := by decide +kernel
theorem dX8_valueOfSplit_89 : decode cX8_valueOfSplit 89 = .ok (.aload_n 0, 1) := by decide +kernel
theorem dX8_valueOfSplit_90 : decode cX8_valueOfSplit 90 = .ok (.getfield 33, 3) := by decide +kernel
theorem dX8_valueOfSplit_93 : decode cX8_valueOfSplit 93 = .ok (.iload_n 1, 1) := by decide +kernel
theorem dX8_valueOfSplit_94 : decode cX8_valueOfSplit 94 = .ok (.iconst 0, 1) := by decide +kernel
theorem dX8_valueOfSplit_95 : decode cX8_valueOfSplit 95 = .ok (.invokevirtual 330, 3) := by decide +kernel
theorem dX8_valueOfSplit_98 : decode cX8_valueOfSplit 98 = .ok (.ireturn, 1) := by decide +kernel
theorem dX8_valueOfSplit_99 : decode cX8_valueOfSplit 99 = .ok (.aload_n 0, 1) := by decide +kernel
theorem dX8_valueOfSplit_100 : decode cX8_valueOfSplit 100 = .ok (.getfield 33, 3) := by decide +kernel
theorem dX8_valueOfSplit_103 : decode cX8_valueOfSplit 103 = .ok (.iload_n 1, 1) := by decide +kernel
theorem dX8_valueOfSplit_104 : decode cX8_valueOfSplit 104 = .ok (.iconst 1, 1) := by decide +kernel
theorem dX8_valueOfSplit_105 : decode cX8_valueOfSplit 105 = .ok (.invokevirtual 330, 3) := by decide +kernel
theorem dX8_valueOfSplit_108 : decode cX8_valueOfSplit 108 = .ok (.ireturn, 1) := by decide +kernel
theorem dX8_valueOfSplit_109 : decode cX8_valueOfSplit 109 = .ok (.aload_n 0, 1) := by decide +kernel
theorem dX8_valueOfSplit_110 : decode cX8_valueOfSplit 110 = .ok (.getfield 33, 3) := by decide +kernel
theorem dX8_valueOfSplit_113 : decode cX8_valueOfSplit 113 = .ok (.iload_n 1, 1) := by decide +kernel
theorem dX8_valueOfSplit_114 : decode cX8_valueOfSplit 114 = .ok (.iconst 0, 1) := by decide +kernel
theorem dX8_valueOfSplit_115 : decode cX8_valueOfSplit 115 = .ok (.invokevirtual 179, 3) := by decide +kernel
theorem dX8_valueOfSplit_118 : decode cX8_valueOfSplit 118 = .ok (.ireturn, 1) := by decide +kernel
theorem dX8_valueOfSplit_119 : decode cX8_valueOfSplit 119 = .ok (.aload_n 0, 1) := by decide +kernel
theorem dX8_valueOfSplit_120 : decode cX8_valueOfSplit 120 = .ok (.getfield 33, 3) := by decide +kernel
theorem dX8_valueOfSplit_123 : decode cX8_valueOfSplit 123 = .ok (.iload_n 1, 1) := by decide +kernel
theorem dX8_valueOfSplit_124 : decode cX8_valueOfSplit 124 = .ok (.iconst 1, 1) := by decide +kernel
theorem dX8_valueOfSplit_125 : decode cX8_valueOfSplit 125 = .ok (.invokevirtual 179, 3) := by decide +kernel
theorem dX8_valueOfSplit_128 : decode cX8_valueOfSplit 128 = .ok (.ireturn, 1) := by decide +kernel
theorem dX8_valueOfSplit_129 : decode cX8_valueOfSplit 129 = .ok (.aload_n 0, 1) := by decide +kernel
theorem dX8_valueOfSplit_130 : decode cX8_valueOfSplit 130 = .ok (.getfield 33, 3) := by decide +kernel
theorem dX8_valueOfSplit_133 : decode cX8_valueOfSplit 133 = .ok (.iload_n 1, 1) := by decide +kernel
theorem dX8_valueOfSplit_134 : decode cX8_valueOfSplit 134 = .ok (.invokevirtual 331, 3) := by decide +kernel
theorem dX8_valueOfSplit_137 : decode cX8_valueOfSplit 137 = .ok (.ifCond .eq 7, 3) := by decide +kernel
theorem dX8_valueOfSplit_140 : decode cX8_valueOfSplit 140 = .ok (.iconst 1, 1) := by decide +kernel
theorem dX8_valueOfSplit_141 : decode cX8_valueOfSplit 141 = .ok (.goto 4, 3) := by decide +kernel
theorem dX8_valueOfSplit_144 : decode cX8_valueOfSplit 144 = .ok (.iconst 0, 1) := by decide +kernel
theorem dX8_valueOfSplit_145 : decode cX8_valueOfSplit 145 = .ok (.ireturn, 1) := by decide +kernel
theorem hin_X8_valueOfSplit_X8 : ∀ w ∈ wsX80, w ∈ wsX8_valueOfSplit := by decide +kernel
theorem lk_X8_valueOfSplit_12 : Cond.fieldLink RX8 12 RX8 "now" "LDockTree$State;" ∈ wsX8_valueOfSplit := by decide +kernel
theorem hin_X8_valueOfSplit_X7 : ∀ w ∈ wsX70, w ∈ wsX8_valueOfSplit := by decide +kernel
theorem lk_X8_valueOfSplit_33 : Cond.fieldLink RX8 33 RX8 "plan" "LDockTree$Plan;" ∈ wsX8_valueOfSplit := by decide +kernel
theorem k_valueOfSplit (hG : GP G) (hD : DoS S a c h t p b q) (hW : Wo mu c h t p) {s u w : Int} (hw : 0 ≤ w ∧ w ≤ 7) : Ct G l yX8_valueOfSplit wsX8_valueOfSplit 3 0 0 [.ref a, .int (I32 s), .int (I32 u), .int (I32 w)] S n mu la (Dt (some (.int (I32 (vsF (lay mu (c + 2)) (pl mu p) s u w)))) S n mu la) := by
  have o8 := hD.1
  have o7 := hD.2.1.1
  have o5 := hD.2.2.2.2.1.1
  have o4 := hD.2.1.2.2.1.1
  have b1 := gL_bd hW.2.1 (by omega) 5 (s - 32)
  have b2 := tiF_b (pl mu p) s
  refine Ct.ofV (cc := cX8_valueOfSplit) (nL := 4) (ret := (some .int)) [some (.ref a), some (.int (I32 s)), some (.int (I32 u)), some (.int (I32 w))] hG (by decide) rfl (Nat.le_of_ble_eq_true rfl) rfl ?_
  rintro X rfl rfl C hcl hsl E
  have hw9 : w = 0 ∨ w = 1 ∨ w = 2 ∨ w = 3 ∨ w = 4 ∨ w = 5 ∨ w = 6 ∨ w = 7 := by omega
  rcases hw9 with rfl | rfl | rfl | rfl | rfl | rfl | rfl | rfl
  · refine V_iload_n C dX8_valueOfSplit_0 rfl ?_
    refine V_tableIn C 44 dX8_valueOfSplit_1 (by omega) (by omega) (by omega) rfl (by decide) ?_
    refine V_aload_n C dX8_valueOfSplit_44 rfl ?_
    refine V_getR C 0 dX8_valueOfSplit_45 o8 rfl hin_X8_valueOfSplit_X8 (by decide) lk_X8_valueOfSplit_12 rfl rfl ?_
    refine V_getNR C 4 (host := "DockTree") dX8_valueOfSplit_48 o7 rfl hin_X8_valueOfSplit_X7 (by decide) (by decide +kernel) rfl rfl ?_
    refine V_iload_n C dX8_valueOfSplit_51 rfl ?_
    refine V_callVD (nA := 1) C dX8_valueOfSplit_52 (w_axisOf C.gp hD.2.1.2.2.1) gX8_valueOfSplit_X4_axisOf rfl o4 rfl (by decide +kernel) rfl (by decide) (by decide) (Nat.le_of_ble_eq_true rfl) ⟨by omega, by omega⟩ rfl ?_
    refine V_iconst C dX8_valueOfSplit_55 ?_
    refine V_icmp_ne C 63 dX8_valueOfSplit_56 (by decide) (by omega) (by omega) (fun z56 => ?_) (fun z56 => ?_)
    · refine V_iconst C dX8_valueOfSplit_63 ?_
      refine V_ireturn C E dX8_valueOfSplit_64 (by omega) (by omega) ?_
      rw [vs_0]
      exact Dt_int (by (repeat' split) <;> omega)
    · refine V_iconst C dX8_valueOfSplit_59 ?_
      refine V_goto C 64 dX8_valueOfSplit_60 (by decide) ?_
      refine V_ireturn C E dX8_valueOfSplit_64 (by omega) (by omega) ?_
      rw [vs_0]
      exact Dt_int (by (repeat' split) <;> omega)
  · refine V_iload_n C dX8_valueOfSplit_0 rfl ?_
    refine V_tableIn C 65 dX8_valueOfSplit_1 (by omega) (by omega) (by omega) rfl (by decide) ?_
    refine V_aload_n C dX8_valueOfSplit_65 rfl ?_
    refine V_getR C 0 dX8_valueOfSplit_66 o8 rfl hin_X8_valueOfSplit_X8 (by decide) lk_X8_valueOfSplit_12 rfl rfl ?_
    refine V_getNR C 4 (host := "DockTree") dX8_valueOfSplit_69 o7 rfl hin_X8_valueOfSplit_X7 (by decide) (by decide +kernel) rfl rfl ?_
    refine V_iload_n C dX8_valueOfSplit_72 rfl ?_
    refine V_callVD (nA := 1) C dX8_valueOfSplit_73 (w_countOf C.gp hD.2.1.2.2.1) gX8_valueOfSplit_X4_countOf rfl o4 rfl (by decide +kernel) rfl (by decide) (by decide) (Nat.le_of_ble_eq_true rfl) ⟨by omega, by omega⟩ rfl ?_
    refine V_ireturn C E dX8_valueOfSplit_76 (by omega) (by omega) ?_
    rw [vs_1]
    exact Dt_int (by (repeat' split) <;> omega)
  · refine V_iload_n C dX8_valueOfSplit_0 rfl ?_
    refine V_tableIn C 77 dX8_valueOfSplit_1 (by omega) (by omega) (by omega) rfl (by decide) ?_
    refine V_aload_n C dX8_valueOfSplit_77 rfl ?_
    refine V_getR C 0 dX8_valueOfSplit_78 o8 rfl hin_X8_valueOfSplit_X8 (by decide) lk_X8_valueOfSplit_12 rfl rfl ?_
    refine V_getNR C 4 (host := "DockTree") dX8_valueOfSplit_81 o7 rfl hin_X8_valueOfSplit_X7 (by decide) (by decide +kernel) rfl rfl ?_
    refine V_iload_n C dX8_valueOfSplit_84 rfl ?_
    refine V_callVD (nA := 1) C dX8_valueOfSplit_85 (w_placeOf C.gp hD.2.1.2.2.1) gX8_valueOfSplit_X4_placeOf rfl o4 rfl (by decide +kernel) rfl (by decide) (by decide) (Nat.le_of_ble_eq_true rfl) ⟨by omega, by omega⟩ rfl ?_
    refine V_ireturn C E dX8_valueOfSplit_88 (by omega) (by omega) ?_
    rw [vs_2]
    exact Dt_int (by (repeat' split) <;> omega)
  · refine V_iload_n C dX8_valueOfSplit_0 rfl ?_
    refine V_tableIn C 89 dX8_valueOfSplit_1 (by omega) (by omega) (by omega) rfl (by decide) ?_
    refine V_aload_n C dX8_valueOfSplit_89 rfl ?_
    refine V_getR C 3 dX8_valueOfSplit_90 o8 rfl hin_X8_valueOfSplit_X8 (by decide) lk_X8_valueOfSplit_33 rfl rfl ?_
    refine V_iload_n C dX8_valueOfSplit_93 rfl ?_
    refine V_iconst C dX8_valueOfSplit_94 ?_
    refine V_callVD (nA := 2) C dX8_valueOfSplit_95 (w_leastOf C.gp hD.2.2.2.2.1) gX8_valueOfSplit_X5_leastOf rfl o5 rfl (by decide +kernel) rfl (by decide) (by decide) (Nat.le_of_ble_eq_true rfl) ⟨by omega, by omega⟩ rfl ?_
    refine V_ireturn C E dX8_valueOfSplit_98 (by omega) (by omega) ?_
    rw [vs_3]
    exact Dt_int (by (repeat' split) <;> omega)
  · refine V_iload_n C dX8_valueOfSplit_0 rfl ?_
    refine V_tableIn C 99 dX8_valueOfSplit_1 (by omega) (by omega) (by omega) rfl (by decide) ?_
    refine V_aload_n C dX8_valueOfSplit_99 rfl ?_
    refine V_getR C 3 dX8_valueOfSplit_100 o8 rfl hin_X8_valueOfSplit_X8 (by decide) lk_X8_valueOfSplit_33 rfl rfl ?_
    refine V_iload_n C dX8_valueOfSplit_103 rfl ?_
    refine V_iconst C dX8_valueOfSplit_104 ?_
    refine V_callVD (nA := 2) C dX8_valueOfSplit_105 (w_leastOf C.gp hD.2.2.2.2.1) gX8_valueOfSplit_X5_leastOf rfl o5 rfl (by decide +kernel) rfl (by decide) (by decide) (Nat.le_of_ble_eq_true rfl) ⟨by omega, by omega⟩ rfl ?_
    refine V_ireturn C E dX8_valueOfSplit_108 (by omega) (by omega) ?_
    rw [vs_4]
    exact Dt_int (by (repeat' split) <;> omega)
  · refine V_iload_n C dX8_valueOfSplit_0 rfl ?_
    refine V_tableIn C 109 dX8_valueOfSplit_1 (by omega) (by omega) (by omega) rfl (by decide) ?_
    refine V_aload_n C dX8_valueOfSplit_109 rfl ?_
    refine V_getR C 3 dX8_valueOfSplit_110 o8 rfl hin_X8_valueOfSplit_X8 (by decide) lk_X8_valueOfSplit_33 rfl rfl ?_
    refine V_iload_n C dX8_valueOfSplit_113 rfl ?_
    refine V_iconst C dX8_valueOfSplit_114 ?_
    refine V_callVD (nA := 2) C dX8_valueOfSplit_115 (w_sizeOf C.gp hD.2.2.2.2.1) gX8_valueOfSplit_X5_sizeOf rfl o5 rfl (by decide +kernel) rfl (by decide) (by decide) (Nat.le_of_ble_eq_true rfl) ⟨by omega, by omega⟩ rfl ?_
    refine V_ireturn C E dX8_valueOfSplit_118 (by omega) (by omega) ?_
    rw [vs_5]
    exact Dt_int (by (repeat' split) <;> omega)
  · refine V_iload_n C dX8_valueOfSplit_0 rfl ?_
    refine V_tableIn C 119 dX8_valueOfSplit_1 (by omega) (by omega) (by omega) rfl (by decide) ?_
    refine V_aload_n C dX8_valueOfSplit_119 rfl ?_
    refine V_getR C 3 dX8_valueOfSplit_120 o8 rfl hin_X8_valueOfSplit_X8 (by decide) lk_X8_valueOfSplit_33 rfl rfl ?_
    refine V_iload_n C dX8_valueOfSplit_123 rfl ?_
    refine V_iconst C dX8_valueOfSplit_124 ?_
    refine V_callVD (nA := 2) C dX8_valueOfSplit_125 (w_sizeOf C.gp hD.2.2.2.2.1) gX8_valueOfSplit_X5_sizeOf rfl o5 rfl (by decide +kernel) rfl (by decide) (by decide) (Nat.le_of_ble_eq_true rfl) ⟨by omega, by omega⟩ rfl ?_
    refine V_ireturn C E dX8_valueOfSplit_128 (by omega) (by omega) ?_
    rw [vs_6]
    exact Dt_int (by (repeat' split) <;> omega)
  · refine V_iload_n C dX8_valueOfSplit_0 rfl ?_
    refine V_tableOut C 129 dX8_valueOfSplit_1 (by omega) (by omega) (by decide) ?_
    refine V_aload_n C dX8_valueOfSplit_129 rfl ?_
    refine V_getR C 3 dX8_valueOfSplit_130 o8 rfl hin_X8_valueOfSplit_X8 (by decide) lk_X8_valueOfSplit_33 rfl rfl ?_
    refine V_iload_n C dX8_valueOfSplit_133 rfl ?_
    refine V_callVD (nA := 1) C dX8_valueOfSplit_134 (w_isTight C.gp hD.2.2.2.2.1 hW.1) gX8_valueOfSplit_X5_isTight rfl o5 rfl (by decide +kernel) rfl (by decide) (by decide) (Nat.le_of_ble_eq_true rfl) ⟨by omega, by omega⟩ rfl ?_
    refine V_if_eq C 144 dX8_valueOfSplit_137 (by decide) (by omega) (fun z137 => ?_) (fun z137 => ?_)
    · refine V_iconst C dX8_valueOfSplit_144 ?_
      refine V_ireturn C E dX8_valueOfSplit_145 (by omega) (by omega) ?_
      rw [vs_7]
      exact Dt_int (by (repeat' split) <;> omega)
    · refine V_iconst C dX8_valueOfSplit_140 ?_
      refine V_goto C 145 dX8_valueOfSplit_141 (by decide) ?_
      refine V_ireturn C E dX8_valueOfSplit_145 (by omega) (by omega) ?_
      rw [vs_7]
      exact Dt_int (by (repeat' split) <;> omega)
def fdrF (mu : Mem) (c p : Nat) (x d : Int) : Int :=
  if pnF mu c x = 1 then
    (if d < -400 ∨ 400 < d then 2 else
      if spF (gL (lay mu (c + 2)) 0 (gL (lay mu (c + 2)) 0 x)) = 0 ∨ tiF (pl mu p) (gL (lay mu (c + 2)) 0 (gL (lay mu (c + 2)) 0 x)) = 1 then 3 else
        if mbrF (lay mu (c + 2)) (gL (lay mu (c + 2)) 0 (gL (lay mu (c + 2)) 0 x)) (gL (lay mu (c + 2)) 1 (gL (lay mu (c + 2)) 0 x) + 1) = -1 then 3 else
          if 0 ≤ wr (spaF (pl mu p) (gL (lay mu (c + 2)) 0 x) (gL (lay mu (c + 2)) 5 (gL (lay mu (c + 2)) 0 (gL (lay mu (c + 2)) 0 x) - 32)) + d) ∧
            0 ≤ wr (spaF (pl mu p) (mbrF (lay mu (c + 2)) (gL (lay mu (c + 2)) 0 (gL (lay mu (c + 2)) 0 x)) (gL (lay mu (c + 2)) 1 (gL (lay mu (c + 2)) 0 x) + 1)) (gL (lay mu (c + 2)) 5 (gL (lay mu (c + 2)) 0 (gL (lay mu (c + 2)) 0 x) - 32)) - d) then 0 else 3)
  else 1
end D2
