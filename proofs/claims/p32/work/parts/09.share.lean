section PC
variable {G : Gx} {l : Launch} {S : Sh} {n : Nat} {mu : Mem} {la : Lam} {p : Nat} {P : Mem}
def glP (P : Mem) (c : Int) (j : Int) : Int := if 0 < P 9 5 then dv (wr (c * gK P 10 16 j)) (P 9 5) else 0
def glG (P : Mem) (c : Int) : Nat → Mem × Int
  | 0 => (P, c)
  | j + 1 => (sK (glG P c j).1 12 16 j (glP P c j), wr ((glG P c j).2 - glP P c j))
def glF (P : Mem) (c : Int) : Mem := hoF (glG P c (P 9 4).toNat).1 (glG P c (P 9 4).toNat).2
theorem glG_k (P : Mem) (c : Int) {k : Nat} (hk : k ≠ 12) (i : Int) : ∀ j, (glG P c j).1 k i = P k i
  | 0 => rfl
  | j + 1 => by
    show sK _ 12 16 _ _ k i = _
    rw [sK_ne hk]; exact glG_k P c hk i j
theorem glG_R {P : Mem} (h : R32 P) (c : Int) : ∀ j, R32 (glG P c j).1
  | 0 => h
  | j + 1 => R32_sK (glG_R h c j) _ _ _ _
theorem glG_b (P : Mem) {c : Int} (h : -2147483648 ≤ c ∧ c ≤ 2147483647) : ∀ j, -2147483648 ≤ (glG P c j).2 ∧ (glG P c j).2 ≤ 2147483647
  | 0 => h
  | _ + 1 => wr_b _
theorem gK_glG (P : Mem) (c : Int) {k m : Nat} (hk : k ≠ 12) (i : Int) (j : Nat) : gK (glG P c j).1 k m i = gK P k m i := by
  unfold gK atF
  rw [glG_k P c hk]
theorem hoF_R {P : Mem} (h : R32 P) (c : Int) : R32 (hoF P c) := hoG_R h c _
theorem glF_R {P : Mem} (h : R32 P) (c : Int) : R32 (glF P c) := hoF_R (glG_R h c _) _
set_option maxRecDepth 20000 in
theorem ggX6_giveByLeast_X8_at : GoodIn wsX6_giveByLeast wsX8_at := goodIn_r _ [7] (by decide +kernel) (by decide +kernel)
set_option maxRecDepth 20000 in
theorem gX6_giveByLeast_X8_at_n35 : GoodIn wsX6_giveByLeast (wsX8_at) := ggX6_giveByLeast_X8_at
set_option maxRecDepth 20000 in
theorem ggX6_giveByLeast_X8_put : GoodIn wsX6_giveByLeast wsX8_put := goodIn_r _ [9] (by decide +kernel) (by decide +kernel)
set_option maxRecDepth 20000 in
theorem gX6_giveByLeast_X8_put_n31 : GoodIn wsX6_giveByLeast (wsX8_put) := ggX6_giveByLeast_X8_put
set_option maxRecDepth 20000 in
theorem ggX6_giveByLeast_X6_handOut : GoodIn wsX6_giveByLeast wsX6_handOut := goodIn_r _ [14, 1, 15, 4, 5, 6, 7, 8, 9, 16, 17, 18, 19, 20, 21] (by decide +kernel) (by decide +kernel)
set_option maxRecDepth 20000 in
theorem gX6_giveByLeast_X6_handOut : GoodIn wsX6_giveByLeast (wsV RX6 39 RX6 yX6_handOut wsX6_handOut) := goodIn_app (goodIn_of _ (by decide +kernel)) ggX6_giveByLeast_X6_handOut
theorem dX6_giveByLeast_0 : decode cX6_giveByLeast 0 = .ok (.iload_n 1, 1) := by decide +kernel
theorem dX6_giveByLeast_1 : decode cX6_giveByLeast 1 = .ok (.istore_n 2, 1) := by decide +kernel
theorem dX6_giveByLeast_2 : decode cX6_giveByLeast 2 = .ok (.iconst 0, 1) := by decide +kernel
theorem dX6_giveByLeast_3 : decode cX6_giveByLeast 3 = .ok (.istore_n 3, 1) := by decide +kernel
theorem dX6_giveByLeast_4 : decode cX6_giveByLeast 4 = .ok (.iload_n 3, 1) := by decide +kernel
theorem dX6_giveByLeast_5 : decode cX6_giveByLeast 5 = .ok (.aload_n 0, 1) := by decide +kernel
theorem dX6_giveByLeast_6 : decode cX6_giveByLeast 6 = .ok (.getfield 24, 3) := by decide +kernel
theorem dX6_giveByLeast_9 : decode cX6_giveByLeast 9 = .ok (.if_icmp .ge 52, 3) := by decide +kernel
theorem dX6_giveByLeast_12 : decode cX6_giveByLeast 12 = .ok (.aload_n 0, 1) := by decide +kernel
theorem dX6_giveByLeast_13 : decode cX6_giveByLeast 13 = .ok (.getfield 28, 3) := by decide +kernel
theorem dX6_giveByLeast_16 : decode cX6_giveByLeast 16 = .ok (.ifCond .le 21, 3) := by decide +kernel
theorem dX6_giveByLeast_19 : decode cX6_giveByLeast 19 = .ok (.iload_n 1, 1) := by decide +kernel
theorem dX6_giveByLeast_20 : decode cX6_giveByLeast 20 = .ok (.aload_n 0, 1) := by decide +kernel
theorem dX6_giveByLeast_21 : decode cX6_giveByLeast 21 = .ok (.getfield 9, 3) := by decide +kernel
theorem dX6_giveByLeast_24 : decode cX6_giveByLeast 24 = .ok (.iload_n 3, 1) := by decide +kernel
theorem dX6_giveByLeast_25 : decode cX6_giveByLeast 25 = .ok (.invokestatic 35, 3) := by decide +kernel
theorem dX6_giveByLeast_28 : decode cX6_giveByLeast 28 = .ok (.imul, 1) := by decide +kernel
theorem dX6_giveByLeast_29 : decode cX6_giveByLeast 29 = .ok (.aload_n 0, 1) := by decide +kernel
theorem dX6_giveByLeast_30 : decode cX6_giveByLeast 30 = .ok (.getfield 28, 3) := by decide +kernel
theorem dX6_giveByLeast_33 : decode cX6_giveByLeast 33 = .ok (.idiv, 1) := by decide +kernel
theorem dX6_giveByLeast_34 : decode cX6_giveByLeast 34 = .ok (.goto 4, 3) := by decide +kernel
theorem dX6_giveByLeast_37 : decode cX6_giveByLeast 37 = .ok (.iconst 0, 1) := by decide +kernel
theorem dX6_giveByLeast_38 : decode cX6_giveByLeast 38 = .ok (.istore 4, 2) := by decide +kernel
theorem dX6_giveByLeast_40 : decode cX6_giveByLeast 40 = .ok (.aload_n 0, 1) := by decide +kernel
theorem dX6_giveByLeast_41 : decode cX6_giveByLeast 41 = .ok (.getfield 18, 3) := by decide +kernel
theorem dX6_giveByLeast_44 : decode cX6_giveByLeast 44 = .ok (.iload_n 3, 1) := by decide +kernel
theorem dX6_giveByLeast_45 : decode cX6_giveByLeast 45 = .ok (.iload 4, 2) := by decide +kernel
theorem dX6_giveByLeast_47 : decode cX6_giveByLeast 47 = .ok (.invokestatic 31, 3) := by decide +kernel
theorem dX6_giveByLeast_50 : decode cX6_giveByLeast 50 = .ok (.iload_n 2, 1) := by decide +kernel
theorem dX6_giveByLeast_51 : decode cX6_giveByLeast 51 = .ok (.iload 4, 2) := by decide +kernel
theorem dX6_giveByLeast_53 : decode cX6_giveByLeast 53 = .ok (.isub, 1) := by decide +kernel
theorem dX6_giveByLeast_54 : decode cX6_giveByLeast 54 = .ok (.istore_n 2, 1) := by decide +kernel
theorem dX6_giveByLeast_55 : decode cX6_giveByLeast 55 = .ok (.iinc 3 1, 3) := by decide +kernel
theorem dX6_giveByLeast_58 : decode cX6_giveByLeast 58 = .ok (.goto (-54), 3) := by decide +kernel
theorem dX6_giveByLeast_61 : decode cX6_giveByLeast 61 = .ok (.aload_n 0, 1) := by decide +kernel
theorem dX6_giveByLeast_62 : decode cX6_giveByLeast 62 = .ok (.iload_n 2, 1) := by decide +kernel
theorem dX6_giveByLeast_63 : decode cX6_giveByLeast 63 = .ok (.invokevirtual 39, 3) := by decide +kernel
theorem dX6_giveByLeast_66 : decode cX6_giveByLeast 66 = .ok (.return_, 1) := by decide +kernel
theorem hin_X6_giveByLeast_X6 : ∀ w ∈ wsX60, w ∈ wsX6_giveByLeast := by decide +kernel
theorem lk_X6_giveByLeast_24 : Cond.fieldLink RX6 24 RX6 "count" "I" ∈ wsX6_giveByLeast := by decide +kernel
theorem lk_X6_giveByLeast_28 : Cond.fieldLink RX6 28 RX6 "needed" "I" ∈ wsX6_giveByLeast := by decide +kernel
theorem lk_X6_giveByLeast_9 : Cond.fieldLink RX6 9 RX6 "least" "[I" ∈ wsX6_giveByLeast := by decide +kernel
theorem lk_X6_giveByLeast_18 : Cond.fieldLink RX6 18 RX6 "given" "[I" ∈ wsX6_giveByLeast := by decide +kernel
theorem c_giveByLeast (hG : GP G) (hP : PlanS S p) (hR : R32 P) {c : Int} (hc : -2147483648 ≤ c ∧ c ≤ 2147483647) : Ct G l yX6_giveByLeast wsX6_giveByLeast 2 0 0 [.ref (p + 9), .int (I32 c)] S n (putK mu p 14 P) la (Dt none S n (putK mu p 14 (glF P c)) la) := by
  have o6 := hP.2.1
  have b94 := hR 9 4
  have b95 := hR 9 5
  refine Ct.ofV (cc := cX6_giveByLeast) (nL := 5) (ret := none) [some (.ref (p + 9)), some (.int (I32 c)), none, none, none] hG (by decide) rfl (Nat.le_of_ble_eq_true rfl) rfl ?_
  rintro X rfl rfl C hcl hsl E
  have loop : ∀ (m j : Nat) (w : Option Value), j + m = (P 9 4).toNat → V X 4 [some (.ref (p + 9)), some (.int (I32 c)), some (.int (I32 (glG P c j).2)), some (.int (I32 (j : Int))), w] [] S n (putK mu p 14 (glG P c j).1) la 0 0 := by
    intro m
    induction m with
    | zero =>
      intro j w hj
      have e : j = (P 9 4).toNat := by omega
      refine V_iload_n C dX6_giveByLeast_4 rfl ?_
      refine V_aload_n C dX6_giveByLeast_5 rfl ?_
      refine V_getJ C 4 4 rfl dX6_giveByLeast_6 o6 rfl hin_X6_giveByLeast_X6 (by decide) lk_X6_giveByLeast_24 rfl rfl (putK_k (k := 9) (by decide) _) ?_
      rw [glG_k P c (by decide)]
      refine V_icmp_ge C 61 dX6_giveByLeast_9 (by decide) (by omega) (by omega) (fun q => ?_) (fun q => ?_)
      · refine V_aload_n C dX6_giveByLeast_61 rfl ?_
        refine V_iload_n C dX6_giveByLeast_62 rfl ?_
        refine V_callVD (nA := 1) C dX6_giveByLeast_63 (c_handOut C.gp hP (glG_R hR c j) (glG_b P hc j)) gX6_giveByLeast_X6_handOut rfl o6 rfl (by decide +kernel) rfl (by decide) (by decide) (Nat.le_of_ble_eq_true rfl) ⟨by omega, by omega⟩ rfl ?_
        refine V_return C E dX6_giveByLeast_66 (by omega) (by omega) ?_
        rw [glF, ← e]; exact Dt_rfl
      · exact absurd q (by omega)
    | succ m ih =>
      intro j w hj
      have hn : ((j + 1 : Nat) : Int) = (j : Int) + 1 := by omega
      have fin : V X 38 [some (.ref (p + 9)), some (.int (I32 c)), some (.int (I32 (glG P c j).2)), some (.int (I32 (j : Int))), w] [.int (I32 (glP P c j))] S n (putK mu p 14 (glG P c j).1) la 0 0 := by
        have h9 := ih (j + 1) (some (.int (I32 (glP P c j)))) (by omega)
        rw [glG, hn] at h9
        refine V_istore C dX6_giveByLeast_38 rfl (by decide) ?_
        refine V_aload_n C dX6_giveByLeast_40 rfl ?_
        refine V_getR C 2 dX6_giveByLeast_41 o6 rfl hin_X6_giveByLeast_X6 (by decide) lk_X6_giveByLeast_18 rfl rfl ?_
        refine V_iload_n C dX6_giveByLeast_44 rfl ?_
        refine V_iload C dX6_giveByLeast_45 rfl ?_
        refine V_callSND (nA := 3) (host := "DockTree") C dX6_giveByLeast_47 (c_pK C.gp hP 12 16 rfl (by decide)) gX6_giveByLeast_X8_put_n31 (by decide +kernel) (by decide +kernel) (by decide +kernel) rfl (by decide +kernel) rfl (by decide) (by decide) (Nat.le_of_ble_eq_true rfl) ⟨by omega, by omega⟩ rfl ?_
        refine V_iload_n C dX6_giveByLeast_50 rfl ?_
        refine V_iload C dX6_giveByLeast_51 rfl ?_
        refine V_isub C dX6_giveByLeast_53 ?_
        refine V_wr ?_
        refine V_istore_n C dX6_giveByLeast_54 rfl (by decide) ?_
        refine V_iinc C dX6_giveByLeast_55 rfl rfl (by decide) ?_
        refine V_goto C 4 dX6_giveByLeast_58 (by decide) ?_
        exact h9
      refine V_iload_n C dX6_giveByLeast_4 rfl ?_
      refine V_aload_n C dX6_giveByLeast_5 rfl ?_
      refine V_getJ C 4 4 rfl dX6_giveByLeast_6 o6 rfl hin_X6_giveByLeast_X6 (by decide) lk_X6_giveByLeast_24 rfl rfl (putK_k (k := 9) (by decide) _) ?_
      rw [glG_k P c (by decide)]
      refine V_icmp_ge C 61 dX6_giveByLeast_9 (by decide) (by omega) (by omega) (fun q => ?_) (fun q => ?_)
      · exact absurd q (by omega)
      · refine V_aload_n C dX6_giveByLeast_12 rfl ?_
        refine V_getJ C 5 5 rfl dX6_giveByLeast_13 o6 rfl hin_X6_giveByLeast_X6 (by decide) lk_X6_giveByLeast_28 rfl rfl (putK_k (k := 9) (by decide) _) ?_
        rw [glG_k P c (by decide)]
        refine V_if_le C 37 dX6_giveByLeast_16 (by decide) (by omega) (fun q2 => ?_) (fun q2 => ?_)
        · refine V_iconst C dX6_giveByLeast_37 ?_
          rw [glP, if_neg (by omega)] at fin
          exact fin
        · refine V_iload_n C dX6_giveByLeast_19 rfl ?_
          refine V_aload_n C dX6_giveByLeast_20 rfl ?_
          refine V_getR C 0 dX6_giveByLeast_21 o6 rfl hin_X6_giveByLeast_X6 (by decide) lk_X6_giveByLeast_9 rfl rfl ?_
          refine V_iload_n C dX6_giveByLeast_24 rfl ?_
          refine V_callSND (nA := 2) (host := "DockTree") C dX6_giveByLeast_25 (c_aK C.gp hP 10 16 rfl (by decide)) gX6_giveByLeast_X8_at_n35 (by decide +kernel) (by decide +kernel) (by decide +kernel) rfl (by decide +kernel) rfl (by decide) (by decide) (Nat.le_of_ble_eq_true rfl) ⟨by omega, by omega⟩ rfl ?_
          rw [gK_glG P c (by decide)]
          refine V_imul C dX6_giveByLeast_28 ?_
          refine V_wr ?_
          refine V_aload_n C dX6_giveByLeast_29 rfl ?_
          refine V_getJ C 5 5 rfl dX6_giveByLeast_30 o6 rfl hin_X6_giveByLeast_X6 (by decide) lk_X6_giveByLeast_28 rfl rfl (putK_k (k := 9) (by decide) _) ?_
          rw [glG_k P c (by decide)]
          refine V_idivR C dX6_giveByLeast_33 (by omega) (by omega) ?_
          rw [glP, if_pos (by omega)] at fin
          refine V_goto C 38 dX6_giveByLeast_34 (by decide) ?_
          exact fin
  refine V_iload_n C dX6_giveByLeast_0 rfl ?_
  refine V_istore_n C dX6_giveByLeast_1 rfl (by decide) ?_
  refine V_iconst C dX6_giveByLeast_2 ?_
  refine V_istore_n C dX6_giveByLeast_3 rfl (by decide) ?_
  exact loop (P 9 4).toNat 0 _ (by omega)
/-- one look at the free children: the weights, then who gets what -/
def wtG (P : Mem) : Nat → Int
  | 0 => 0
  | j + 1 => wr (wtG P j + (if gK P 13 16 j = 1 then gK P 11 16 j else 0))
def grP (P : Mem) (c w : Int) (j : Int) : Int := if 0 < w then dv (wr (c * gK P 11 16 j)) w else 0
def grG (P : Mem) (c w : Int) : Nat → Mem × Int
  | 0 => (P, 0)
  | j + 1 =>
    if gK (grG P c w j).1 13 16 j = 1 then
      if gK P 10 16 j ≤ grP P c w j then (sK (sK (grG P c w j).1 12 16 j (grP P c w j)) 13 16 j 1, wr ((grG P c w j).2 + 0))
      else (sK (sK (grG P c w j).1 12 16 j (gK P 10 16 j)) 13 16 j 0, wr ((grG P c w j).2 + gK P 10 16 j))
    else grG P c w j
def grF (P : Mem) (c : Int) : Mem × Int := grG P c (wtG P (P 9 4).toNat) (P 9 4).toNat
theorem grG_k (P : Mem) (c w : Int) {k : Nat} (hk : k ≠ 12) (hk2 : k ≠ 13) (i : Int) : ∀ j, (grG P c w j).1 k i = P k i
  | 0 => rfl
  | j + 1 => by
    rw [grG]
    split
    · split
      · show sK (sK _ 12 16 _ _) 13 16 _ _ k i = _
        rw [sK_ne hk2, sK_ne hk]; exact grG_k P c w hk hk2 i j
      · show sK (sK _ 12 16 _ _) 13 16 _ _ k i = _
        rw [sK_ne hk2, sK_ne hk]; exact grG_k P c w hk hk2 i j
    · exact grG_k P c w hk hk2 i j
theorem gK_grG (P : Mem) (c w : Int) {k m : Nat} (hk : k ≠ 12) (hk2 : k ≠ 13) (i : Int) (j : Nat) : gK (grG P c w j).1 k m i = gK P k m i := by
  unfold gK atF
  rw [grG_k P c w hk hk2]
theorem grG_R {P : Mem} (h : R32 P) (c w : Int) : ∀ j, R32 (grG P c w j).1
  | 0 => h
  | j + 1 => by
    rw [grG]
    split
    · split
      · exact R32_sK (R32_sK (grG_R h c w j) _ _ _ _) _ _ _ _
      · exact R32_sK (R32_sK (grG_R h c w j) _ _ _ _) _ _ _ _
    · exact grG_R h c w j
theorem grG_b (P : Mem) (c w : Int) : ∀ j, -2147483648 ≤ (grG P c w j).2 ∧ (grG P c w j).2 ≤ 2147483647
  | 0 => by show -2147483648 ≤ (0 : Int) ∧ (0 : Int) ≤ 2147483647; omega
  | j + 1 => by
    rw [grG]
    split
    · split
      · exact wr_b _
      · exact wr_b _
    · exact grG_b P c w j
theorem wtG_b (P : Mem) : ∀ j, -2147483648 ≤ wtG P j ∧ wtG P j ≤ 2147483647
  | 0 => by show -2147483648 ≤ (0 : Int) ∧ (0 : Int) ≤ 2147483647; omega
  | _ + 1 => wr_b _
theorem grP_b (P : Mem) (c w j : Int) : -2147483648 ≤ grP P c w j ∧ grP P c w j ≤ 2147483647 := by
  unfold grP
  split
  · exact dv_b _ _
  · omega
set_option maxRecDepth 20000 in
theorem ggX6_giveRound_X8_at : GoodIn wsX6_giveRound wsX8_at := goodIn_r _ [8] (by decide +kernel) (by decide +kernel)
set_option maxRecDepth 20000 in
theorem gX6_giveRound_X8_at_n35 : GoodIn wsX6_giveRound (wsX8_at) := ggX6_giveRound_X8_at
set_option maxRecDepth 20000 in
theorem ggX6_giveRound_X8_put : GoodIn wsX6_giveRound wsX8_put := goodIn_r _ [10] (by decide +kernel) (by decide +kernel)
set_option maxRecDepth 20000 in
theorem gX6_giveRound_X8_put_n31 : GoodIn wsX6_giveRound (wsX8_put) := ggX6_giveRound_X8_put
theorem dX6_giveRound_0 : decode cX6_giveRound 0 = .ok (.iconst 0, 1) := by decide +kernel
theorem dX6_giveRound_1 : decode cX6_giveRound 1 = .ok (.istore_n 2, 1) := by decide +kernel
theorem dX6_giveRound_2 : decode cX6_giveRound 2 = .ok (.iconst 0, 1) := by decide +kernel
theorem dX6_giveRound_3 : decode cX6_giveRound 3 = .ok (.istore_n 3, 1) := by decide +kernel
theorem dX6_giveRound_4 : decode cX6_giveRound 4 = .ok (.iload_n 3, 1) := by decide +kernel
theorem dX6_giveRound_5 : decode cX6_giveRound 5 = .ok (.aload_n 0, 1) := by decide +kernel
theorem dX6_giveRound_6 : decode cX6_giveRound 6 = .ok (.getfield 24, 3) := by decide +kernel
theorem dX6_giveRound_9 : decode cX6_giveRound 9 = .ok (.if_icmp .ge 36, 3) := by decide +kernel
theorem dX6_giveRound_12 : decode cX6_giveRound 12 = .ok (.iload_n 2, 1) := by decide +kernel
theorem dX6_giveRound_13 : decode cX6_giveRound 13 = .ok (.aload_n 0, 1) := by decide +kernel
theorem dX6_giveRound_14 : decode cX6_giveRound 14 = .ok (.getfield 21, 3) := by decide +kernel
theorem dX6_giveRound_17 : decode cX6_giveRound 17 = .ok (.iload_n 3, 1) := by decide +kernel
theorem dX6_giveRound_18 : decode cX6_giveRound 18 = .ok (.invokestatic 35, 3) := by decide +kernel
theorem dX6_giveRound_21 : decode cX6_giveRound 21 = .ok (.iconst 1, 1) := by decide +kernel
theorem dX6_giveRound_22 : decode cX6_giveRound 22 = .ok (.if_icmp .ne 14, 3) := by decide +kernel
theorem dX6_giveRound_25 : decode cX6_giveRound 25 = .ok (.aload_n 0, 1) := by decide +kernel
theorem dX6_giveRound_26 : decode cX6_giveRound 26 = .ok (.getfield 15, 3) := by decide +kernel
theorem dX6_giveRound_29 : decode cX6_giveRound 29 = .ok (.iload_n 3, 1) := by decide +kernel
theorem dX6_giveRound_30 : decode cX6_giveRound 30 = .ok (.invokestatic 35, 3) := by decide +kernel
theorem dX6_giveRound_33 : decode cX6_giveRound 33 = .ok (.goto 4, 3) := by decide +kernel
theorem dX6_giveRound_36 : decode cX6_giveRound 36 = .ok (.iconst 0, 1) := by decide +kernel
theorem dX6_giveRound_37 : decode cX6_giveRound 37 = .ok (.iadd, 1) := by decide +kernel
theorem dX6_giveRound_38 : decode cX6_giveRound 38 = .ok (.istore_n 2, 1) := by decide +kernel
theorem dX6_giveRound_39 : decode cX6_giveRound 39 = .ok (.iinc 3 1, 3) := by decide +kernel
theorem dX6_giveRound_42 : decode cX6_giveRound 42 = .ok (.goto (-38), 3) := by decide +kernel
theorem dX6_giveRound_45 : decode cX6_giveRound 45 = .ok (.iconst 0, 1) := by decide +kernel
theorem dX6_giveRound_46 : decode cX6_giveRound 46 = .ok (.istore_n 3, 1) := by decide +kernel
theorem dX6_giveRound_47 : decode cX6_giveRound 47 = .ok (.iconst 0, 1) := by decide +kernel
theorem dX6_giveRound_48 : decode cX6_giveRound 48 = .ok (.istore 4, 2) := by decide +kernel
theorem dX6_giveRound_50 : decode cX6_giveRound 50 = .ok (.iload 4, 2) := by decide +kernel
theorem dX6_giveRound_52 : decode cX6_giveRound 52 = .ok (.aload_n 0, 1) := by decide +kernel
theorem dX6_giveRound_53 : decode cX6_giveRound 53 = .ok (.getfield 24, 3) := by decide +kernel
theorem dX6_giveRound_56 : decode cX6_giveRound 56 = .ok (.if_icmp .ge 134, 3) := by decide +kernel
theorem dX6_giveRound_59 : decode cX6_giveRound 59 = .ok (.aload_n 0, 1) := by decide +kernel
theorem dX6_giveRound_60 : decode cX6_giveRound 60 = .ok (.getfield 21, 3) := by decide +kernel
theorem dX6_giveRound_63 : decode cX6_giveRound 63 = .ok (.iload 4, 2) := by decide +kernel
theorem dX6_giveRound_65 : decode cX6_giveRound 65 = .ok (.invokestatic 35, 3) := by decide +kernel
theorem dX6_giveRound_68 : decode cX6_giveRound 68 = .ok (.iconst 1, 1) := by decide +kernel
theorem dX6_giveRound_69 : decode cX6_giveRound 69 = .ok (.if_icmp .ne 115, 3) := by decide +kernel
theorem dX6_giveRound_72 : decode cX6_giveRound 72 = .ok (.iload_n 2, 1) := by decide +kernel
theorem dX6_giveRound_73 : decode cX6_giveRound 73 = .ok (.ifCond .le 19, 3) := by decide +kernel
theorem dX6_giveRound_76 : decode cX6_giveRound 76 = .ok (.iload_n 1, 1) := by decide +kernel
theorem dX6_giveRound_77 : decode cX6_giveRound 77 = .ok (.aload_n 0, 1) := by decide +kernel
theorem dX6_giveRound_78 : decode cX6_giveRound 78 = .ok (.getfield 15, 3) := by decide +kernel
theorem dX6_giveRound_81 : decode cX6_giveRound 81 = .ok (.iload 4, 2) := by decide +kernel
theorem dX6_giveRound_83 : decode cX6_giveRound 83 = .ok (.invokestatic 35, 3) := by decide +kernel
theorem dX6_giveRound_86 : decode cX6_giveRound 86 = .ok (.imul, 1) := by decide +kernel
theorem dX6_giveRound_87 : decode cX6_giveRound 87 = .ok (.iload_n 2, 1) := by decide +kernel
theorem dX6_giveRound_88 : decode cX6_giveRound 88 = .ok (.idiv, 1) := by decide +kernel
theorem dX6_giveRound_89 : decode cX6_giveRound 89 = .ok (.goto 4, 3) := by decide +kernel
theorem dX6_giveRound_92 : decode cX6_giveRound 92 = .ok (.iconst 0, 1) := by decide +kernel
theorem dX6_giveRound_93 : decode cX6_giveRound 93 = .ok (.istore 5, 2) := by decide +kernel
theorem dX6_giveRound_95 : decode cX6_giveRound 95 = .ok (.iload 5, 2) := by decide +kernel
theorem dX6_giveRound_97 : decode cX6_giveRound 97 = .ok (.aload_n 0, 1) := by decide +kernel
theorem dX6_giveRound_98 : decode cX6_giveRound 98 = .ok (.getfield 9, 3) := by decide +kernel
theorem dX6_giveRound_101 : decode cX6_giveRound 101 = .ok (.iload 4, 2) := by decide +kernel
theorem dX6_giveRound_103 : decode cX6_giveRound 103 = .ok (.invokestatic 35, 3) := by decide +kernel
theorem dX6_giveRound_106 : decode cX6_giveRound 106 = .ok (.if_icmp .lt 7, 3) := by decide +kernel
theorem dX6_giveRound_109 : decode cX6_giveRound 109 = .ok (.iconst 1, 1) := by decide +kernel
theorem dX6_giveRound_110 : decode cX6_giveRound 110 = .ok (.goto 4, 3) := by decide +kernel
theorem dX6_giveRound_113 : decode cX6_giveRound 113 = .ok (.iconst 0, 1) := by decide +kernel
theorem dX6_giveRound_114 : decode cX6_giveRound 114 = .ok (.istore 6, 2) := by decide +kernel
theorem dX6_giveRound_116 : decode cX6_giveRound 116 = .ok (.aload_n 0, 1) := by decide +kernel
theorem dX6_giveRound_117 : decode cX6_giveRound 117 = .ok (.getfield 18, 3) := by decide +kernel
theorem dX6_giveRound_120 : decode cX6_giveRound 120 = .ok (.iload 4, 2) := by decide +kernel
theorem dX6_giveRound_122 : decode cX6_giveRound 122 = .ok (.iload 6, 2) := by decide +kernel
theorem dX6_giveRound_124 : decode cX6_giveRound 124 = .ok (.ifCond .eq 8, 3) := by decide +kernel
theorem dX6_giveRound_127 : decode cX6_giveRound 127 = .ok (.iload 5, 2) := by decide +kernel
theorem dX6_giveRound_129 : decode cX6_giveRound 129 = .ok (.goto 12, 3) := by decide +kernel
theorem dX6_giveRound_132 : decode cX6_giveRound 132 = .ok (.aload_n 0, 1) := by decide +kernel
theorem dX6_giveRound_133 : decode cX6_giveRound 133 = .ok (.getfield 9, 3) := by decide +kernel
theorem dX6_giveRound_136 : decode cX6_giveRound 136 = .ok (.iload 4, 2) := by decide +kernel
theorem dX6_giveRound_138 : decode cX6_giveRound 138 = .ok (.invokestatic 35, 3) := by decide +kernel
theorem dX6_giveRound_141 : decode cX6_giveRound 141 = .ok (.invokestatic 31, 3) := by decide +kernel
theorem dX6_giveRound_144 : decode cX6_giveRound 144 = .ok (.aload_n 0, 1) := by decide +kernel
theorem dX6_giveRound_145 : decode cX6_giveRound 145 = .ok (.getfield 21, 3) := by decide +kernel
theorem dX6_giveRound_148 : decode cX6_giveRound 148 = .ok (.iload 4, 2) := by decide +kernel
theorem dX6_giveRound_150 : decode cX6_giveRound 150 = .ok (.iload 6, 2) := by decide +kernel
theorem dX6_giveRound_152 : decode cX6_giveRound 152 = .ok (.ifCond .eq 7, 3) := by decide +kernel
theorem dX6_giveRound_155 : decode cX6_giveRound 155 = .ok (.iconst 1, 1) := by decide +kernel
theorem dX6_giveRound_156 : decode cX6_giveRound 156 = .ok (.goto 4, 3) := by decide +kernel
theorem dX6_giveRound_159 : decode cX6_giveRound 159 = .ok (.iconst 0, 1) := by decide +kernel
theorem dX6_giveRound_160 : decode cX6_giveRound 160 = .ok (.invokestatic 31, 3) := by decide +kernel
theorem dX6_giveRound_163 : decode cX6_giveRound 163 = .ok (.iload_n 3, 1) := by decide +kernel
theorem dX6_giveRound_164 : decode cX6_giveRound 164 = .ok (.iload 6, 2) := by decide +kernel
theorem dX6_giveRound_166 : decode cX6_giveRound 166 = .ok (.ifCond .eq 7, 3) := by decide +kernel
theorem dX6_giveRound_169 : decode cX6_giveRound 169 = .ok (.iconst 0, 1) := by decide +kernel
theorem dX6_giveRound_170 : decode cX6_giveRound 170 = .ok (.goto 12, 3) := by decide +kernel
theorem dX6_giveRound_173 : decode cX6_giveRound 173 = .ok (.aload_n 0, 1) := by decide +kernel
theorem dX6_giveRound_174 : decode cX6_giveRound 174 = .ok (.getfield 9, 3) := by decide +kernel
theorem dX6_giveRound_177 : decode cX6_giveRound 177 = .ok (.iload 4, 2) := by decide +kernel
theorem dX6_giveRound_179 : decode cX6_giveRound 179 = .ok (.invokestatic 35, 3) := by decide +kernel
theorem dX6_giveRound_182 : decode cX6_giveRound 182 = .ok (.iadd, 1) := by decide +kernel
theorem dX6_giveRound_183 : decode cX6_giveRound 183 = .ok (.istore_n 3, 1) := by decide +kernel
theorem dX6_giveRound_184 : decode cX6_giveRound 184 = .ok (.iinc 4 1, 3) := by decide +kernel
theorem dX6_giveRound_187 : decode cX6_giveRound 187 = .ok (.goto (-137), 3) := by decide +kernel
theorem dX6_giveRound_190 : decode cX6_giveRound 190 = .ok (.iload_n 3, 1) := by decide +kernel
theorem dX6_giveRound_191 : decode cX6_giveRound 191 = .ok (.ireturn, 1) := by decide +kernel
theorem hin_X6_giveRound_X6 : ∀ w ∈ wsX60, w ∈ wsX6_giveRound := by decide +kernel
theorem lk_X6_giveRound_24 : Cond.fieldLink RX6 24 RX6 "count" "I" ∈ wsX6_giveRound := by decide +kernel
theorem lk_X6_giveRound_21 : Cond.fieldLink RX6 21 RX6 "free" "[I" ∈ wsX6_giveRound := by decide +kernel
theorem lk_X6_giveRound_15 : Cond.fieldLink RX6 15 RX6 "weight" "[I" ∈ wsX6_giveRound := by decide +kernel
theorem lk_X6_giveRound_9 : Cond.fieldLink RX6 9 RX6 "least" "[I" ∈ wsX6_giveRound := by decide +kernel
theorem lk_X6_giveRound_18 : Cond.fieldLink RX6 18 RX6 "given" "[I" ∈ wsX6_giveRound := by decide +kernel
theorem c_giveRound (hG : GP G) (hP : PlanS S p) (hR : R32 P) {c : Int} : Ct G l yX6_giveRound wsX6_giveRound 1 0 0 [.ref (p + 9), .int (I32 c)] S n (putK mu p 14 P) la (Dt (some (.int (I32 (grF P c).2))) S n (putK mu p 14 (grF P c).1) la) := by
  have o6 := hP.2.1
  have b94 := hR 9 4
  refine Ct.ofV (cc := cX6_giveRound) (nL := 7) (ret := (some .int)) [some (.ref (p + 9)), some (.int (I32 c)), none, none, none, none, none] hG (by decide) rfl (Nat.le_of_ble_eq_true rfl) rfl ?_
  rintro X rfl rfl C hcl hsl E
  have loop2 : ∀ (m j : Nat) (w5 w6 : Option Value), j + m = (P 9 4).toNat → rK [some (.ref (p + 9)), some (.int (I32 c)), some (.int (I32 (wtG P (P 9 4).toNat))), some (.int (I32 (grG P c (wtG P (P 9 4).toNat) j).2)), some (.int (I32 (j : Int))), w5, w6] 6 = true → V X 50 [some (.ref (p + 9)), some (.int (I32 c)), some (.int (I32 (wtG P (P 9 4).toNat))), some (.int (I32 (grG P c (wtG P (P 9 4).toNat) j).2)), some (.int (I32 (j : Int))), w5, w6] [] S n (putK mu p 14 (grG P c (wtG P (P 9 4).toNat) j).1) la 0 0 := by
    generalize hW : wtG P (P 9 4).toNat = W
    have bW : -2147483648 ≤ W ∧ W ≤ 2147483647 := by rw [← hW]; exact wtG_b P _
    intro m
    induction m with
    | zero =>
      intro j w5 w6 hj hw
      have e : j = (P 9 4).toNat := by omega
      refine V_iload C dX6_giveRound_50 rfl ?_
      refine V_aload_n C dX6_giveRound_52 rfl ?_
      refine V_getJ C 4 4 rfl dX6_giveRound_53 o6 rfl hin_X6_giveRound_X6 (by decide) lk_X6_giveRound_24 rfl rfl (putK_k (k := 9) (by decide) _) ?_
      rw [grG_k P c W (by decide) (by decide)]
      refine V_icmp_ge C 190 dX6_giveRound_56 (by decide) (by omega) (by omega) (fun q => ?_) (fun q => ?_)
      · refine V_iload_n C dX6_giveRound_190 rfl ?_
        refine V_ireturn C E dX6_giveRound_191 (by omega) (by omega) ?_
        rw [grF, hW, ← e]; exact Dt_rfl
      · exact absurd q (by omega)
    | succ m ih =>
      intro j w5 w6 hj hw
      have hn : ((j + 1 : Nat) : Int) = (j : Int) + 1 := by omega
      have b1 := R32_gK (grG_R hR c W j) 13 16 j
      have b2 := R32_gK hR 10 16 j
      have b3 := grP_b P c W j
      refine V_iload C dX6_giveRound_50 rfl ?_
      refine V_aload_n C dX6_giveRound_52 rfl ?_
      refine V_getJ C 4 4 rfl dX6_giveRound_53 o6 rfl hin_X6_giveRound_X6 (by decide) lk_X6_giveRound_24 rfl rfl (putK_k (k := 9) (by decide) _) ?_
      rw [grG_k P c W (by decide) (by decide)]
      refine V_icmp_ge C 190 dX6_giveRound_56 (by decide) (by omega) (by omega) (fun q => ?_) (fun q => ?_)
      · exact absurd q (by omega)
      · refine V_aload_n C dX6_giveRound_59 rfl ?_
        refine V_getR C 3 dX6_giveRound_60 o6 rfl hin_X6_giveRound_X6 (by decide) lk_X6_giveRound_21 rfl rfl ?_
        refine V_iload C dX6_giveRound_63 rfl ?_
        refine V_callSND (nA := 2) (host := "DockTree") C dX6_giveRound_65 (c_aK C.gp hP 13 16 rfl (by decide)) gX6_giveRound_X8_at_n35 (by decide +kernel) (by decide +kernel) (by decide +kernel) rfl (by decide +kernel) rfl (by decide) (by decide) (Nat.le_of_ble_eq_true rfl) ⟨by omega, by omega⟩ rfl ?_
        refine V_iconst C dX6_giveRound_68 ?_
        refine V_icmp_ne C 184 dX6_giveRound_69 (by decide) (by omega) (by omega) (fun q1 => ?_) (fun q1 => ?_)
        · have h9 := ih (j + 1) w5 w6 (by omega)
          rw [grG, if_neg q1, hn] at h9
          refine V_iinc C dX6_giveRound_184 rfl rfl (by decide) ?_
          refine V_goto C 50 dX6_giveRound_187 (by decide) ?_
          exact h9 hw
        · have fin : V X 93 [some (.ref (p + 9)), some (.int (I32 c)), some (.int (I32 W)), some (.int (I32 (grG P c W j).2)), some (.int (I32 (j : Int))), w5, w6] [.int (I32 (grP P c W j))] S n (putK mu p 14 (grG P c W j).1) la 0 0 := by
            refine V_istore C dX6_giveRound_93 rfl (by decide) ?_
            refine V_iload C dX6_giveRound_95 rfl ?_
            refine V_aload_n C dX6_giveRound_97 rfl ?_
            refine V_getR C 0 dX6_giveRound_98 o6 rfl hin_X6_giveRound_X6 (by decide) lk_X6_giveRound_9 rfl rfl ?_
            refine V_iload C dX6_giveRound_101 rfl ?_
            refine V_callSND (nA := 2) (host := "DockTree") C dX6_giveRound_103 (c_aK C.gp hP 10 16 rfl (by decide)) gX6_giveRound_X8_at_n35 (by decide +kernel) (by decide +kernel) (by decide +kernel) rfl (by decide +kernel) rfl (by decide) (by decide) (Nat.le_of_ble_eq_true rfl) ⟨by omega, by omega⟩ rfl ?_
            rw [gK_grG P c W (by decide) (by decide)]
            refine V_icmp_lt C 113 dX6_giveRound_106 (by decide) (by omega) (by omega) (fun q2 => ?_) (fun q2 => ?_)
            · have h9 := ih (j + 1) (some (.int (I32 (grP P c W j)))) (some (.int (I32 0))) (by omega)
              rw [grG, if_pos q1, if_neg (by omega), hn] at h9
              refine V_iconst C dX6_giveRound_113 ?_
              refine V_istore C dX6_giveRound_114 rfl (by decide) ?_
              refine V_aload_n C dX6_giveRound_116 rfl ?_
              refine V_getR C 2 dX6_giveRound_117 o6 rfl hin_X6_giveRound_X6 (by decide) lk_X6_giveRound_18 rfl rfl ?_
              refine V_iload C dX6_giveRound_120 rfl ?_
              refine V_iload C dX6_giveRound_122 rfl ?_
              refine V_if_eq C 132 dX6_giveRound_124 (by decide) (by omega) (fun _ => ?_) (fun z => absurd rfl z)
              refine V_aload_n C dX6_giveRound_132 rfl ?_
              refine V_getR C 0 dX6_giveRound_133 o6 rfl hin_X6_giveRound_X6 (by decide) lk_X6_giveRound_9 rfl rfl ?_
              refine V_iload C dX6_giveRound_136 rfl ?_
              refine V_callSND (nA := 2) (host := "DockTree") C dX6_giveRound_138 (c_aK C.gp hP 10 16 rfl (by decide)) gX6_giveRound_X8_at_n35 (by decide +kernel) (by decide +kernel) (by decide +kernel) rfl (by decide +kernel) rfl (by decide) (by decide) (Nat.le_of_ble_eq_true rfl) ⟨by omega, by omega⟩ rfl ?_
              rw [gK_grG P c W (by decide) (by decide)]
              refine V_callSND (nA := 3) (host := "DockTree") C dX6_giveRound_141 (c_pK C.gp hP 12 16 rfl (by decide)) gX6_giveRound_X8_put_n31 (by decide +kernel) (by decide +kernel) (by decide +kernel) rfl (by decide +kernel) rfl (by decide) (by decide) (Nat.le_of_ble_eq_true rfl) ⟨by omega, by omega⟩ rfl ?_
              refine V_aload_n C dX6_giveRound_144 rfl ?_
              refine V_getR C 3 dX6_giveRound_145 o6 rfl hin_X6_giveRound_X6 (by decide) lk_X6_giveRound_21 rfl rfl ?_
              refine V_iload C dX6_giveRound_148 rfl ?_
              refine V_iload C dX6_giveRound_150 rfl ?_
              refine V_if_eq C 159 dX6_giveRound_152 (by decide) (by omega) (fun _ => ?_) (fun z => absurd rfl z)
              refine V_iconst C dX6_giveRound_159 ?_
              refine V_callSND (nA := 3) (host := "DockTree") C dX6_giveRound_160 (c_pK C.gp hP 13 16 rfl (by decide)) gX6_giveRound_X8_put_n31 (by decide +kernel) (by decide +kernel) (by decide +kernel) rfl (by decide +kernel) rfl (by decide) (by decide) (Nat.le_of_ble_eq_true rfl) ⟨by omega, by omega⟩ rfl ?_
              refine V_iload_n C dX6_giveRound_163 rfl ?_
              refine V_iload C dX6_giveRound_164 rfl ?_
              refine V_if_eq C 173 dX6_giveRound_166 (by decide) (by omega) (fun _ => ?_) (fun z => absurd rfl z)
              refine V_aload_n C dX6_giveRound_173 rfl ?_
              refine V_getR C 0 dX6_giveRound_174 o6 rfl hin_X6_giveRound_X6 (by decide) lk_X6_giveRound_9 rfl rfl ?_
              refine V_iload C dX6_giveRound_177 rfl ?_
              refine V_callSND (nA := 2) (host := "DockTree") C dX6_giveRound_179 (c_aK C.gp hP 10 16 rfl (by decide)) gX6_giveRound_X8_at_n35 (by decide +kernel) (by decide +kernel) (by decide +kernel) rfl (by decide +kernel) rfl (by decide) (by decide) (Nat.le_of_ble_eq_true rfl) ⟨by omega, by omega⟩ rfl ?_
              rw [gK_sK_ne (by decide), gK_sK_ne (by decide), gK_grG P c W (by decide) (by decide)]
              refine V_iadd C dX6_giveRound_182 ?_
              refine V_wr ?_
              refine V_istore_n C dX6_giveRound_183 rfl (by decide) ?_
              refine V_iinc C dX6_giveRound_184 rfl rfl (by decide) ?_
              refine V_goto C 50 dX6_giveRound_187 (by decide) ?_
              exact h9 rfl
            · have h9 := ih (j + 1) (some (.int (I32 (grP P c W j)))) (some (.int (I32 1))) (by omega)
              rw [grG, if_pos q1, if_pos (by omega), hn] at h9
              refine V_iconst C dX6_giveRound_109 ?_
              refine V_goto C 114 dX6_giveRound_110 (by decide) ?_
              refine V_istore C dX6_giveRound_114 rfl (by decide) ?_
              refine V_aload_n C dX6_giveRound_116 rfl ?_
              refine V_getR C 2 dX6_giveRound_117 o6 rfl hin_X6_giveRound_X6 (by decide) lk_X6_giveRound_18 rfl rfl ?_
              refine V_iload C dX6_giveRound_120 rfl ?_
              refine V_iload C dX6_giveRound_122 rfl ?_
              refine V_if_eq C 132 dX6_giveRound_124 (by decide) (by omega) (fun z => absurd z (by decide)) (fun _ => ?_)
              refine V_iload C dX6_giveRound_127 rfl ?_
              refine V_goto C 141 dX6_giveRound_129 (by decide) ?_
              refine V_callSND (nA := 3) (host := "DockTree") C dX6_giveRound_141 (c_pK C.gp hP 12 16 rfl (by decide)) gX6_giveRound_X8_put_n31 (by decide +kernel) (by decide +kernel) (by decide +kernel) rfl (by decide +kernel) rfl (by decide) (by decide) (Nat.le_of_ble_eq_true rfl) ⟨by omega, by omega⟩ rfl ?_
              refine V_aload_n C dX6_giveRound_144 rfl ?_
              refine V_getR C 3 dX6_giveRound_145 o6 rfl hin_X6_giveRound_X6 (by decide) lk_X6_giveRound_21 rfl rfl ?_
              refine V_iload C dX6_giveRound_148 rfl ?_
              refine V_iload C dX6_giveRound_150 rfl ?_
              refine V_if_eq C 159 dX6_giveRound_152 (by decide) (by omega) (fun z => absurd z (by decide)) (fun _ => ?_)
              refine V_iconst C dX6_giveRound_155 ?_
              refine V_goto C 160 dX6_giveRound_156 (by decide) ?_
              refine V_callSND (nA := 3) (host := "DockTree") C dX6_giveRound_160 (c_pK C.gp hP 13 16 rfl (by decide)) gX6_giveRound_X8_put_n31 (by decide +kernel) (by decide +kernel) (by decide +kernel) rfl (by decide +kernel) rfl (by decide) (by decide) (Nat.le_of_ble_eq_true rfl) ⟨by omega, by omega⟩ rfl ?_
              refine V_iload_n C dX6_giveRound_163 rfl ?_
              refine V_iload C dX6_giveRound_164 rfl ?_
              refine V_if_eq C 173 dX6_giveRound_166 (by decide) (by omega) (fun z => absurd z (by decide)) (fun _ => ?_)
              refine V_iconst C dX6_giveRound_169 ?_
              refine V_goto C 182 dX6_giveRound_170 (by decide) ?_
              refine V_iadd C dX6_giveRound_182 ?_
              refine V_wr ?_
              refine V_istore_n C dX6_giveRound_183 rfl (by decide) ?_
              refine V_iinc C dX6_giveRound_184 rfl rfl (by decide) ?_
              refine V_goto C 50 dX6_giveRound_187 (by decide) ?_
              exact h9 rfl
          refine V_iload_n C dX6_giveRound_72 rfl ?_
          refine V_if_le C 92 dX6_giveRound_73 (by decide) (by omega) (fun q4 => ?_) (fun q4 => ?_)
          · refine V_iconst C dX6_giveRound_92 ?_
            rw [grP, if_neg (by omega)] at fin
            exact fin
          · refine V_iload_n C dX6_giveRound_76 rfl ?_
            refine V_aload_n C dX6_giveRound_77 rfl ?_
            refine V_getR C 1 dX6_giveRound_78 o6 rfl hin_X6_giveRound_X6 (by decide) lk_X6_giveRound_15 rfl rfl ?_
            refine V_iload C dX6_giveRound_81 rfl ?_
            refine V_callSND (nA := 2) (host := "DockTree") C dX6_giveRound_83 (c_aK C.gp hP 11 16 rfl (by decide)) gX6_giveRound_X8_at_n35 (by decide +kernel) (by decide +kernel) (by decide +kernel) rfl (by decide +kernel) rfl (by decide) (by decide) (Nat.le_of_ble_eq_true rfl) ⟨by omega, by omega⟩ rfl ?_
            rw [gK_grG P c W (by decide) (by decide)]
            refine V_imul C dX6_giveRound_86 ?_
            refine V_wr ?_
            refine V_iload_n C dX6_giveRound_87 rfl ?_
            refine V_idivR C dX6_giveRound_88 (by omega) (by omega) ?_
            rw [grP, if_pos (by omega)] at fin
            refine V_goto C 93 dX6_giveRound_89 (by decide) ?_
            exact fin
  have loop1 : ∀ (m j : Nat), j + m = (P 9 4).toNat → V X 4 [some (.ref (p + 9)), some (.int (I32 c)), some (.int (I32 (wtG P j))), some (.int (I32 (j : Int))), none, none, none] [] S n (putK mu p 14 P) la 0 0 := by
    intro m
    induction m with
    | zero =>
      intro j hj
      have e : j = (P 9 4).toNat := by omega
      refine V_iload_n C dX6_giveRound_4 rfl ?_
      refine V_aload_n C dX6_giveRound_5 rfl ?_
      refine V_getJ C 4 4 rfl dX6_giveRound_6 o6 rfl hin_X6_giveRound_X6 (by decide) lk_X6_giveRound_24 rfl rfl (putK_k (k := 9) (by decide) _) ?_
      refine V_icmp_ge C 45 dX6_giveRound_9 (by decide) (by omega) (by omega) (fun q => ?_) (fun q => ?_)
      · refine V_iconst C dX6_giveRound_45 ?_
        refine V_istore_n C dX6_giveRound_46 rfl (by decide) ?_
        refine V_iconst C dX6_giveRound_47 ?_
        refine V_istore C dX6_giveRound_48 rfl (by decide) ?_
        have h9 := loop2 (P 9 4).toNat 0 none none (by omega) rfl
        rw [← e] at h9
        exact h9
      · exact absurd q (by omega)
    | succ m ih =>
      intro j hj
      have hn : ((j + 1 : Nat) : Int) = (j : Int) + 1 := by omega
      have b1 := R32_gK hR 13 16 j
      have h9 := ih (j + 1) (by omega)
      rw [wtG, hn] at h9
      refine V_iload_n C dX6_giveRound_4 rfl ?_
      refine V_aload_n C dX6_giveRound_5 rfl ?_
      refine V_getJ C 4 4 rfl dX6_giveRound_6 o6 rfl hin_X6_giveRound_X6 (by decide) lk_X6_giveRound_24 rfl rfl (putK_k (k := 9) (by decide) _) ?_
      refine V_icmp_ge C 45 dX6_giveRound_9 (by decide) (by omega) (by omega) (fun q => ?_) (fun q => ?_)
      · exact absurd q (by omega)
      · refine V_iload_n C dX6_giveRound_12 rfl ?_
        refine V_aload_n C dX6_giveRound_13 rfl ?_
        refine V_getR C 3 dX6_giveRound_14 o6 rfl hin_X6_giveRound_X6 (by decide) lk_X6_giveRound_21 rfl rfl ?_
        refine V_iload_n C dX6_giveRound_17 rfl ?_
        refine V_callSND (nA := 2) (host := "DockTree") C dX6_giveRound_18 (c_aK C.gp hP 13 16 rfl (by decide)) gX6_giveRound_X8_at_n35 (by decide +kernel) (by decide +kernel) (by decide +kernel) rfl (by decide +kernel) rfl (by decide) (by decide) (Nat.le_of_ble_eq_true rfl) ⟨by omega, by omega⟩ rfl ?_
        refine V_iconst C dX6_giveRound_21 ?_
        refine V_icmp_ne C 36 dX6_giveRound_22 (by decide) (by omega) (by omega) (fun q1 => ?_) (fun q1 => ?_)
        · rw [if_neg q1] at h9
          refine V_iconst C dX6_giveRound_36 ?_
          refine V_iadd C dX6_giveRound_37 ?_
          refine V_wr ?_
          refine V_istore_n C dX6_giveRound_38 rfl (by decide) ?_
          refine V_iinc C dX6_giveRound_39 rfl rfl (by decide) ?_
          refine V_goto C 4 dX6_giveRound_42 (by decide) ?_
          exact h9
        · rw [if_pos q1] at h9
          refine V_aload_n C dX6_giveRound_25 rfl ?_
          refine V_getR C 1 dX6_giveRound_26 o6 rfl hin_X6_giveRound_X6 (by decide) lk_X6_giveRound_15 rfl rfl ?_
          refine V_iload_n C dX6_giveRound_29 rfl ?_
          refine V_callSND (nA := 2) (host := "DockTree") C dX6_giveRound_30 (c_aK C.gp hP 11 16 rfl (by decide)) gX6_giveRound_X8_at_n35 (by decide +kernel) (by decide +kernel) (by decide +kernel) rfl (by decide +kernel) rfl (by decide) (by decide) (Nat.le_of_ble_eq_true rfl) ⟨by omega, by omega⟩ rfl ?_
          refine V_goto C 37 dX6_giveRound_33 (by decide) ?_
          refine V_iadd C dX6_giveRound_37 ?_
          refine V_wr ?_
          refine V_istore_n C dX6_giveRound_38 rfl (by decide) ?_
          refine V_iinc C dX6_giveRound_39 rfl rfl (by decide) ?_
          refine V_goto C 4 dX6_giveRound_42 (by decide) ?_
          exact h9
  refine V_iconst C dX6_giveRound_0 ?_
  refine V_istore_n C dX6_giveRound_1 rfl (by decide) ?_
  refine V_iconst C dX6_giveRound_2 ?_
  refine V_istore_n C dX6_giveRound_3 rfl (by decide) ?_
  exact loop1 (P 9 4).toNat 0 (by omega)
/-- the rounds -/
def gwG (P : Mem) (c : Int) : Nat → Mem × Int × Int
  | 0 => (P, c, 1)
  | j + 1 => if 0 < (gwG P c j).2.2 then ((grF (gwG P c j).1 (gwG P c j).2.1).1, wr ((gwG P c j).2.1 - (grF (gwG P c j).1 (gwG P c j).2.1).2), (grF (gwG P c j).1 (gwG P c j).2.1).2) else gwG P c j
def lwG (P : Mem) (c : Int) : Nat → Int
  | 0 => c
  | j + 1 => wr (lwG P c j - (if gK P 13 16 j = 1 then gK P 12 16 j else 0))
def gwE (P : Mem) (c : Int) : Mem × Int × Int := gwG P c (P 9 4 + 1).toNat
def gwF (P : Mem) (c : Int) : Mem := hoF (gwE P c).1 (lwG (gwE P c).1 (gwE P c).2.1 (P 9 4).toNat)
theorem grF_k (P : Mem) (c : Int) {k : Nat} (hk : k ≠ 12) (hk2 : k ≠ 13) (i : Int) : (grF P c).1 k i = P k i := grG_k P c _ hk hk2 i _
theorem grF_R {P : Mem} (h : R32 P) (c : Int) : R32 (grF P c).1 := grG_R h c _ _
theorem grF_b (P : Mem) (c : Int) : -2147483648 ≤ (grF P c).2 ∧ (grF P c).2 ≤ 2147483647 := grG_b P c _ _
theorem gwG_k (P : Mem) (c : Int) {k : Nat} (hk : k ≠ 12) (hk2 : k ≠ 13) (i : Int) : ∀ j, (gwG P c j).1 k i = P k i
  | 0 => rfl
  | j + 1 => by
    rw [gwG]
    split
    · show (grF _ _).1 k i = _
      rw [grF_k _ _ hk hk2]; exact gwG_k P c hk hk2 i j
    · exact gwG_k P c hk hk2 i j
theorem gwG_R {P : Mem} (h : R32 P) (c : Int) : ∀ j, R32 (gwG P c j).1
  | 0 => h
  | j + 1 => by
    rw [gwG]
    split
    · exact grF_R (gwG_R h c j) _
    · exact gwG_R h c j
theorem gwG_b (P : Mem) {c : Int} (h : -2147483648 ≤ c ∧ c ≤ 2147483647) : ∀ j, -2147483648 ≤ (gwG P c j).2.1 ∧ (gwG P c j).2.1 ≤ 2147483647
  | 0 => h
  | j + 1 => by
    rw [gwG]
    split
    · exact wr_b _
    · exact gwG_b P h j
theorem gwG_t (P : Mem) (c : Int) : ∀ j, -2147483648 ≤ (gwG P c j).2.2 ∧ (gwG P c j).2.2 ≤ 2147483647
  | 0 => by show -2147483648 ≤ (1 : Int) ∧ (1 : Int) ≤ 2147483647; omega
  | j + 1 => by
    rw [gwG]
    split
    · exact grF_b _ _
    · exact gwG_t P c j
theorem gwG_end (P : Mem) (c : Int) {j : Nat} (h : (gwG P c j).2.2 ≤ 0) : ∀ m, gwG P c (j + m) = gwG P c j
  | 0 => rfl
  | m + 1 => by
    rw [← Nat.add_assoc, gwG, gwG_end P c h m, if_neg (by omega)]
theorem lwG_b (P : Mem) {c : Int} (h : -2147483648 ≤ c ∧ c ≤ 2147483647) : ∀ j, -2147483648 ≤ lwG P c j ∧ lwG P c j ≤ 2147483647
  | 0 => h
  | _ + 1 => wr_b _
theorem gwF_R {P : Mem} (h : R32 P) (c : Int) : R32 (gwF P c) := hoF_R (gwG_R h c _) _
set_option maxRecDepth 20000 in
theorem ggX6_giveByWeight_X6_giveRound : GoodIn wsX6_giveByWeight wsX6_giveRound := goodIn_r _ [8, 1, 2, 9, 10, 3, 11, 12, 13, 14, 15, 20, 21, 22, 23, 24, 25] (by decide +kernel) (by decide +kernel)
set_option maxRecDepth 20000 in
theorem gX6_giveByWeight_X6_giveRound : GoodIn wsX6_giveByWeight (wsV RX6 43 RX6 yX6_giveRound wsX6_giveRound) := goodIn_app (goodIn_of _ (by decide +kernel)) ggX6_giveByWeight_X6_giveRound
set_option maxRecDepth 20000 in
theorem ggX6_giveByWeight_X8_at : GoodIn wsX6_giveByWeight wsX8_at := goodIn_r _ [13] (by decide +kernel) (by decide +kernel)
set_option maxRecDepth 20000 in
theorem gX6_giveByWeight_X8_at_n35 : GoodIn wsX6_giveByWeight (wsX8_at) := ggX6_giveByWeight_X8_at
set_option maxRecDepth 20000 in
theorem ggX6_giveByWeight_X6_handOut : GoodIn wsX6_giveByWeight wsX6_handOut := goodIn_r _ [19, 1, 2, 3, 11, 12, 13, 14, 15, 20, 21, 22, 23, 24, 25] (by decide +kernel) (by decide +kernel)
set_option maxRecDepth 20000 in
theorem gX6_giveByWeight_X6_handOut : GoodIn wsX6_giveByWeight (wsV RX6 39 RX6 yX6_handOut wsX6_handOut) := goodIn_app (goodIn_of _ (by decide +kernel)) ggX6_giveByWeight_X6_handOut
theorem dX6_giveByWeight_0 : decode cX6_giveByWeight 0 = .ok (.iload_n 1, 1) := by decide +kernel
theorem dX6_giveByWeight_1 : decode cX6_giveByWeight 1 = .ok (.istore_n 2, 1) := by decide +kernel
theorem dX6_giveByWeight_2 : decode cX6_giveByWeight 2 = .ok (.iconst 1, 1) := by decide +kernel
theorem dX6_giveByWeight_3 : decode cX6_giveByWeight 3 = .ok (.istore_n 3, 1) := by decide +kernel
theorem dX6_giveByWeight_4 : decode cX6_giveByWeight 4 = .ok (.iconst 0, 1) := by decide +kernel
theorem dX6_giveByWeight_5 : decode cX6_giveByWeight 5 = .ok (.istore 4, 2) := by decide +kernel
theorem dX6_giveByWeight_7 : decode cX6_giveByWeight 7 = .ok (.iload 4, 2) := by decide +kernel
theorem dX6_giveByWeight_9 : decode cX6_giveByWeight 9 = .ok (.aload_n 0, 1) := by decide +kernel
theorem dX6_giveByWeight_10 : decode cX6_giveByWeight 10 = .ok (.getfield 24, 3) := by decide +kernel
theorem dX6_giveByWeight_13 : decode cX6_giveByWeight 13 = .ok (.if_icmp .gt 23, 3) := by decide +kernel
theorem dX6_giveByWeight_16 : decode cX6_giveByWeight 16 = .ok (.iload_n 3, 1) := by decide +kernel
theorem dX6_giveByWeight_17 : decode cX6_giveByWeight 17 = .ok (.ifCond .le 19, 3) := by decide +kernel
theorem dX6_giveByWeight_20 : decode cX6_giveByWeight 20 = .ok (.aload_n 0, 1) := by decide +kernel
theorem dX6_giveByWeight_21 : decode cX6_giveByWeight 21 = .ok (.iload_n 2, 1) := by decide +kernel
theorem dX6_giveByWeight_22 : decode cX6_giveByWeight 22 = .ok (.invokevirtual 43, 3) := by decide +kernel
theorem dX6_giveByWeight_25 : decode cX6_giveByWeight 25 = .ok (.istore_n 3, 1) := by decide +kernel
theorem dX6_giveByWeight_26 : decode cX6_giveByWeight 26 = .ok (.iload_n 2, 1) := by decide +kernel
theorem dX6_giveByWeight_27 : decode cX6_giveByWeight 27 = .ok (.iload_n 3, 1) := by decide +kernel
theorem dX6_giveByWeight_28 : decode cX6_giveByWeight 28 = .ok (.isub, 1) := by decide +kernel
theorem dX6_giveByWeight_29 : decode cX6_giveByWeight 29 = .ok (.istore_n 2, 1) := by decide +kernel
theorem dX6_giveByWeight_30 : decode cX6_giveByWeight 30 = .ok (.iinc 4 1, 3) := by decide +kernel
theorem dX6_giveByWeight_33 : decode cX6_giveByWeight 33 = .ok (.goto (-26), 3) := by decide +kernel
theorem dX6_giveByWeight_36 : decode cX6_giveByWeight 36 = .ok (.iconst 0, 1) := by decide +kernel
theorem dX6_giveByWeight_37 : decode cX6_giveByWeight 37 = .ok (.istore 4, 2) := by decide +kernel
theorem dX6_giveByWeight_39 : decode cX6_giveByWeight 39 = .ok (.iload 4, 2) := by decide +kernel
theorem dX6_giveByWeight_41 : decode cX6_giveByWeight 41 = .ok (.aload_n 0, 1) := by decide +kernel
theorem dX6_giveByWeight_42 : decode cX6_giveByWeight 42 = .ok (.getfield 24, 3) := by decide +kernel
theorem dX6_giveByWeight_45 : decode cX6_giveByWeight 45 = .ok (.if_icmp .ge 38, 3) := by decide +kernel
theorem dX6_giveByWeight_48 : decode cX6_giveByWeight 48 = .ok (.iload_n 2, 1) := by decide +kernel
theorem dX6_giveByWeight_49 : decode cX6_giveByWeight 49 = .ok (.aload_n 0, 1) := by decide +kernel
theorem dX6_giveByWeight_50 : decode cX6_giveByWeight 50 = .ok (.getfield 21, 3) := by decide +kernel
theorem dX6_giveByWeight_53 : decode cX6_giveByWeight 53 = .ok (.iload 4, 2) := by decide +kernel
theorem dX6_giveByWeight_55 : decode cX6_giveByWeight 55 = .ok (.invokestatic 35, 3) := by decide +kernel
theorem dX6_giveByWeight_58 : decode cX6_giveByWeight 58 = .ok (.iconst 1, 1) := by decide +kernel
theorem dX6_giveByWeight_59 : decode cX6_giveByWeight 59 = .ok (.if_icmp .ne 15, 3) := by decide +kernel
theorem dX6_giveByWeight_62 : decode cX6_giveByWeight 62 = .ok (.aload_n 0, 1) := by decide +kernel
theorem dX6_giveByWeight_63 : decode cX6_giveByWeight 63 = .ok (.getfield 18, 3) := by decide +kernel
theorem dX6_giveByWeight_66 : decode cX6_giveByWeight 66 = .ok (.iload 4, 2) := by decide +kernel
theorem dX6_giveByWeight_68 : decode cX6_giveByWeight 68 = .ok (.invokestatic 35, 3) := by decide +kernel
theorem dX6_giveByWeight_71 : decode cX6_giveByWeight 71 = .ok (.goto 4, 3) := by decide +kernel
theorem dX6_giveByWeight_74 : decode cX6_giveByWeight 74 = .ok (.iconst 0, 1) := by decide +kernel
theorem dX6_giveByWeight_75 : decode cX6_giveByWeight 75 = .ok (.isub, 1) := by decide +kernel
theorem dX6_giveByWeight_76 : decode cX6_giveByWeight 76 = .ok (.istore_n 2, 1) := by decide +kernel
theorem dX6_giveByWeight_77 : decode cX6_giveByWeight 77 = .ok (.iinc 4 1, 3) := by decide +kernel
theorem dX6_giveByWeight_80 : decode cX6_giveByWeight 80 = .ok (.goto (-41), 3) := by decide +kernel
theorem dX6_giveByWeight_83 : decode cX6_giveByWeight 83 = .ok (.aload_n 0, 1) := by decide +kernel
theorem dX6_giveByWeight_84 : decode cX6_giveByWeight 84 = .ok (.iload_n 2, 1) := by decide +kernel
theorem dX6_giveByWeight_85 : decode cX6_giveByWeight 85 = .ok (.invokevirtual 39, 3) := by decide +kernel
theorem dX6_giveByWeight_88 : decode cX6_giveByWeight 88 = .ok (.return_, 1) := by decide +kernel
theorem hin_X6_giveByWeight_X6 : ∀ w ∈ wsX60, w ∈ wsX6_giveByWeight := by decide +kernel
theorem lk_X6_giveByWeight_24 : Cond.fieldLink RX6 24 RX6 "count" "I" ∈ wsX6_giveByWeight := by decide +kernel
theorem lk_X6_giveByWeight_21 : Cond.fieldLink RX6 21 RX6 "free" "[I" ∈ wsX6_giveByWeight := by decide +kernel
theorem lk_X6_giveByWeight_18 : Cond.fieldLink RX6 18 RX6 "given" "[I" ∈ wsX6_giveByWeight := by decide +kernel
theorem c_giveByWeight (hG : GP G) (hP : PlanS S p) (hR : R32 P) (h94 : P 9 4 ≤ 1000000000) {c : Int} (hc : -2147483648 ≤ c ∧ c ≤ 2147483647) : Ct G l yX6_giveByWeight wsX6_giveByWeight 2 0 0 [.ref (p + 9), .int (I32 c)] S n (putK mu p 14 P) la (Dt none S n (putK mu p 14 (gwF P c)) la) := by
  have o6 := hP.2.1
  have b94 := hR 9 4
  have hRE : R32 (gwE P c).1 := gwG_R hR c _
  have bE : -2147483648 ≤ (gwE P c).2.1 ∧ (gwE P c).2.1 ≤ 2147483647 := gwG_b P hc _
  have e94 : (gwE P c).1 9 4 = P 9 4 := gwG_k P c (by decide) (by decide) _ _
  refine Ct.ofV (cc := cX6_giveByWeight) (nL := 5) (ret := none) [some (.ref (p + 9)), some (.int (I32 c)), none, none, none] hG (by decide) rfl (Nat.le_of_ble_eq_true rfl) rfl ?_
  rintro X rfl rfl C hcl hsl E
  have loop2 : ∀ (m j : Nat) (w3 : Value), w3.category = 1 → j + m = (P 9 4).toNat → V X 39 [some (.ref (p + 9)), some (.int (I32 c)), some (.int (I32 (lwG (gwE P c).1 (gwE P c).2.1 j))), some (.int (I32 (gwE P c).2.2)), some (.int (I32 (j : Int)))] [] S n (putK mu p 14 (gwE P c).1) la 0 0 := by
    intro m
    induction m with
    | zero =>
      intro j w3 hw hj
      have e : j = (P 9 4).toNat := by omega
      refine V_iload C dX6_giveByWeight_39 rfl ?_
      refine V_aload_n C dX6_giveByWeight_41 rfl ?_
      refine V_getJ C 4 4 rfl dX6_giveByWeight_42 o6 rfl hin_X6_giveByWeight_X6 (by decide) lk_X6_giveByWeight_24 rfl rfl (putK_k (k := 9) (by decide) _) ?_
      rw [e94]
      refine V_icmp_ge C 83 dX6_giveByWeight_45 (by decide) (by omega) (by omega) (fun q => ?_) (fun q => ?_)
      · refine V_aload_n C dX6_giveByWeight_83 rfl ?_
        refine V_iload_n C dX6_giveByWeight_84 rfl ?_
        refine V_callVD (nA := 1) C dX6_giveByWeight_85 (c_handOut C.gp hP hRE (lwG_b _ bE j)) gX6_giveByWeight_X6_handOut rfl o6 rfl (by decide +kernel) rfl (by decide) (by decide) (Nat.le_of_ble_eq_true rfl) ⟨by omega, by omega⟩ rfl ?_
        refine V_return C E dX6_giveByWeight_88 (by omega) (by omega) ?_
        rw [gwF, ← e]; exact Dt_rfl
      · exact absurd q (by omega)
    | succ m ih =>
      intro j w3 hw hj
      have hn : ((j + 1 : Nat) : Int) = (j : Int) + 1 := by omega
      have b1 := R32_gK hRE 13 16 j
      have h9 := ih (j + 1) w3 hw (by omega)
      rw [lwG, hn] at h9
      refine V_iload C dX6_giveByWeight_39 rfl ?_
      refine V_aload_n C dX6_giveByWeight_41 rfl ?_
      refine V_getJ C 4 4 rfl dX6_giveByWeight_42 o6 rfl hin_X6_giveByWeight_X6 (by decide) lk_X6_giveByWeight_24 rfl rfl (putK_k (k := 9) (by decide) _) ?_
      rw [e94]
      refine V_icmp_ge C 83 dX6_giveByWeight_45 (by decide) (by omega) (by omega) (fun q => ?_) (fun q => ?_)
      · exact absurd q (by omega)
      · refine V_iload_n C dX6_giveByWeight_48 rfl ?_
        refine V_aload_n C dX6_giveByWeight_49 rfl ?_
        refine V_getR C 3 dX6_giveByWeight_50 o6 rfl hin_X6_giveByWeight_X6 (by decide) lk_X6_giveByWeight_21 rfl rfl ?_
        refine V_iload C dX6_giveByWeight_53 rfl ?_
        refine V_callSND (nA := 2) (host := "DockTree") C dX6_giveByWeight_55 (c_aK C.gp hP 13 16 rfl (by decide)) gX6_giveByWeight_X8_at_n35 (by decide +kernel) (by decide +kernel) (by decide +kernel) rfl (by decide +kernel) rfl (by decide) (by decide) (Nat.le_of_ble_eq_true rfl) ⟨by omega, by omega⟩ rfl ?_
        refine V_iconst C dX6_giveByWeight_58 ?_
        refine V_icmp_ne C 74 dX6_giveByWeight_59 (by decide) (by omega) (by omega) (fun q1 => ?_) (fun q1 => ?_)
        · rw [if_neg q1] at h9
          refine V_iconst C dX6_giveByWeight_74 ?_
          refine V_isub C dX6_giveByWeight_75 ?_
          refine V_wr ?_
          refine V_istore_n C dX6_giveByWeight_76 rfl (by decide) ?_
          refine V_iinc C dX6_giveByWeight_77 rfl rfl (by decide) ?_
          refine V_goto C 39 dX6_giveByWeight_80 (by decide) ?_
          exact h9
        · rw [if_pos q1] at h9
          refine V_aload_n C dX6_giveByWeight_62 rfl ?_
          refine V_getR C 2 dX6_giveByWeight_63 o6 rfl hin_X6_giveByWeight_X6 (by decide) lk_X6_giveByWeight_18 rfl rfl ?_
          refine V_iload C dX6_giveByWeight_66 rfl ?_
          refine V_callSND (nA := 2) (host := "DockTree") C dX6_giveByWeight_68 (c_aK C.gp hP 12 16 rfl (by decide)) gX6_giveByWeight_X8_at_n35 (by decide +kernel) (by decide +kernel) (by decide +kernel) rfl (by decide +kernel) rfl (by decide) (by decide) (Nat.le_of_ble_eq_true rfl) ⟨by omega, by omega⟩ rfl ?_
          refine V_goto C 75 dX6_giveByWeight_71 (by decide) ?_
          refine V_isub C dX6_giveByWeight_75 ?_
          refine V_wr ?_
          refine V_istore_n C dX6_giveByWeight_76 rfl (by decide) ?_
          refine V_iinc C dX6_giveByWeight_77 rfl rfl (by decide) ?_
          refine V_goto C 39 dX6_giveByWeight_80 (by decide) ?_
          exact h9
  have out' : ∀ j : Nat, gwG P c j = gwE P c → V X 36 [some (.ref (p + 9)), some (.int (I32 c)), some (.int (I32 (gwG P c j).2.1)), some (.int (I32 (gwG P c j).2.2)), some (.int (I32 (j : Int)))] [] S n (putK mu p 14 (gwG P c j).1) la 0 0 := by
    intro j hj
    rw [hj]
    refine V_iconst C dX6_giveByWeight_36 ?_
    refine V_istore C dX6_giveByWeight_37 rfl (by decide) ?_
    exact loop2 (P 9 4).toNat 0 .null rfl (by omega)
  have loop1 : ∀ (m j : Nat), j + m = (P 9 4 + 1).toNat → V X 7 [some (.ref (p + 9)), some (.int (I32 c)), some (.int (I32 (gwG P c j).2.1)), some (.int (I32 (gwG P c j).2.2)), some (.int (I32 (j : Int)))] [] S n (putK mu p 14 (gwG P c j).1) la 0 0 := by
    intro m
    induction m with
    | zero =>
      intro j hj
      have e : j = (P 9 4 + 1).toNat := by omega
      refine V_iload C dX6_giveByWeight_7 rfl ?_
      refine V_aload_n C dX6_giveByWeight_9 rfl ?_
      refine V_getJ C 4 4 rfl dX6_giveByWeight_10 o6 rfl hin_X6_giveByWeight_X6 (by decide) lk_X6_giveByWeight_24 rfl rfl (putK_k (k := 9) (by decide) _) ?_
      rw [gwG_k P c (by decide) (by decide)]
      refine V_icmp_gt C 36 dX6_giveByWeight_13 (by decide) (by omega) (by omega) (fun q => ?_) (fun q => ?_)
      · exact out' j (by rw [gwE, ← e])
      · exact absurd q (by omega)
    | succ m ih =>
      intro j hj
      have hn : ((j + 1 : Nat) : Int) = (j : Int) + 1 := by omega
      have bt := gwG_t P c j
      refine V_iload C dX6_giveByWeight_7 rfl ?_
      refine V_aload_n C dX6_giveByWeight_9 rfl ?_
      refine V_getJ C 4 4 rfl dX6_giveByWeight_10 o6 rfl hin_X6_giveByWeight_X6 (by decide) lk_X6_giveByWeight_24 rfl rfl (putK_k (k := 9) (by decide) _) ?_
      rw [gwG_k P c (by decide) (by decide)]
      refine V_icmp_gt C 36 dX6_giveByWeight_13 (by decide) (by omega) (by omega) (fun q => ?_) (fun q => ?_)
      · exact absurd q (by omega)
      · refine V_iload_n C dX6_giveByWeight_16 rfl ?_
        refine V_if_le C 36 dX6_giveByWeight_17 (by decide) (by omega) (fun q2 => ?_) (fun q2 => ?_)
        · exact out' j (by rw [gwE, show (P 9 4 + 1).toNat = j + (m + 1) by omega, gwG_end P c q2])
        · have h9 := ih (j + 1) (by omega)
          rw [gwG, if_pos q2, hn] at h9
          refine V_aload_n C dX6_giveByWeight_20 rfl ?_
          refine V_iload_n C dX6_giveByWeight_21 rfl ?_
          refine V_callVD (nA := 1) C dX6_giveByWeight_22 (c_giveRound C.gp hP (gwG_R hR c j)) gX6_giveByWeight_X6_giveRound rfl o6 rfl (by decide +kernel) rfl (by decide) (by decide) (Nat.le_of_ble_eq_true rfl) ⟨by omega, by omega⟩ rfl ?_
          refine V_istore_n C dX6_giveByWeight_25 rfl (by decide) ?_
          refine V_iload_n C dX6_giveByWeight_26 rfl ?_
          refine V_iload_n C dX6_giveByWeight_27 rfl ?_
          refine V_isub C dX6_giveByWeight_28 ?_
          refine V_wr ?_
          refine V_istore_n C dX6_giveByWeight_29 rfl (by decide) ?_
          refine V_iinc C dX6_giveByWeight_30 rfl rfl (by decide) ?_
          refine V_goto C 7 dX6_giveByWeight_33 (by decide) ?_
          exact h9
  refine V_iload_n C dX6_giveByWeight_0 rfl ?_
  refine V_istore_n C dX6_giveByWeight_1 rfl (by decide) ?_
  refine V_iconst C dX6_giveByWeight_2 ?_
  refine V_istore_n C dX6_giveByWeight_3 rfl (by decide) ?_
  refine V_iconst C dX6_giveByWeight_4 ?_
  refine V_istore C dX6_giveByWeight_5 rfl (by decide) ?_
  exact loop1 (P 9 4 + 1).toNat 0 (by omega)
end PC
