/-! THE REFERENCE: what if -/
theorem goodIn_s {big : List Cond} (ws : List Cond) (ps : List (Nat × Nat)) (hp : ws = ps.flatMap (fun p => (big.drop p.1).take p.2)) (h : ws.all goodWord = true) : GoodIn big ws := by
  intro w hw
  have h1 := List.all_eq_true.mp h w hw
  rw [hp] at hw
  obtain ⟨p, -, hi⟩ := List.mem_flatMap.mp hw
  exact ⟨List.mem_of_mem_drop (List.mem_of_mem_take hi), good_of_word h1⟩
theorem ptT_ly (mu : Mem) (r : Nat) (T : Mem) : ptT mu r T = lyM mu r T (mu r 9) (zOf mu r) := by
  rw [lyM, show zM mu r (mu r 9) (zOf mu r) = mu by
    funext a j
    unfold zM zOf
    split
    · congr 1; omega
    · split
      · rename_i h; rw [h.1, h.2]
      · rfl]
theorem dkT_TB {N : Int} {T : Mem} (h : TB N T) (hN : 100 ≤ N) {P : Int} (hP : 0 ≤ P ∧ P ≤ 16) {p t s : Int} (hp : 0 ≤ p ∧ p < 16) (ht : 0 ≤ t ∧ t < 16) (ho : okD T P p t s) : TB (N + 3) (dkT T P p t s) := by
  obtain ⟨o1, o2, o3⟩ := ho
  have h1 := tkT_TB h hN hP hp
  have b9 := h1.g ht
  have bt := tbT_b (tkT T P p) hP (tkT T P p 9 t)
  have bk := knF_b s
  unfold dkT
  split
  · exact (((h1.mono (show N + 2 ≤ N + 3 by omega)).upd _ _ (by omega) (by omega) (by omega)).upd _ _ (by omega) (by omega) (by omega)).upd _ _ (by omega) (by omega) (by omega)
  · rename_i z
    obtain ⟨f1, f2⟩ := o3 z
    have h2 := TB_dk2 h hN hP hp f1
    have b1 := h2.p (i := tkT T P p 9 t) (by omega)
    have b2 := h2.n 2 (by decide) (i := tkT T P p 9 t) (by omega)
    have b3 := h2.n 3 (by decide) (i := tkT T P p 9 t) (by omega)
    split
    · rename_i y
      refine TB.mono (?_ : TB (N + 2 + 1) _) (by omega)
      refine ciT_TB h2 (by omega) ?_ ?_ b3
      · omega
      · split <;> omega
    · rename_i y
      exact (prT_TB h2 (by omega) (f2 y) (by omega) (by omega)).mono (by omega)
def cm1 (mu : Mem) (r : Nat) : Mem := cpF mu (r + 1) (r + 4) 1639
def cm2 (mu : Mem) (r : Nat) (p t s : Int) : Mem := up (cm1 mu r) r 19 (dkA (trT mu r) (mu (r + 1) 2) p t s)
def cmT (mu : Mem) (r : Nat) (p t s : Int) : Mem := dkT (trT mu r) (mu (r + 1) 2) p t s
def cmq (mu : Mem) (r : Nat) (p t s : Int) : Int := (quT (cmT mu r p t s) (zOf (cm2 mu r p t s) r)).1
def cmZ (mu : Mem) (r : Nat) (p t s : Int) : Mem := laZ (cm2 mu r p t s) r (cmT mu r p t s) (zOf (cm2 mu r p t s) r) (mu (r + 1) 0) (mu (r + 1) 1)
def cm3 (mu : Mem) (r : Nat) (p t s : Int) : Mem := lyM (cm2 mu r p t s) r (cmT mu r p t s) (cmq mu r p t s) (cmZ mu r p t s)
def cbM (mu : Mem) (r : Nat) (p t s : Int) : Mem := cpF (cm3 mu r p t s) (r + 4) (r + 1) 1639
def cbE (mu : Mem) (r : Nat) (p t s : Int) : Int := cmZ mu r p t s 11 (cmT mu r p t s 9 p) * phF (cmZ mu r p t s) (cmT mu r p t s 9 p)
def okC (mu : Mem) (r : Nat) (p t s : Int) : Prop := okD (trT mu r) (mu (r + 1) 2) p t s ∧ LyOk (cm2 mu r p t s) r (cmT mu r p t s) (zOf (cm2 mu r p t s) r) (mu (r + 1) 0) (mu (r + 1) 1) ∧ 0 ≤ cmT mu r p t s 9 p
theorem cm2_a {mu : Mem} {r : Nat} {p t s : Int} {a : Nat} (h : a ≠ r) (h4 : a ≠ r + 4) (i : Int) : cm2 mu r p t s a i = mu a i := by
  unfold cm2 cm1
  rw [up_a _ _ _ _ h, cpF_off h4]
theorem cm2_r {mu : Mem} {r : Nat} {p t s i : Int} (h : i ≠ 19) : cm2 mu r p t s r i = mu r i := by
  unfold cm2 cm1
  rw [up_i _ _ _ h, cpF_off (by omega)]
theorem cbM_1 (mu : Mem) (r : Nat) (p t s i : Int) : cbM mu r p t s (r + 1) i = mu (r + 1) i := by
  unfold cbM cpF
  by_cases hi : 0 ≤ i ∧ i < ((1639 : Nat) : Int)
  · rw [if_pos ⟨rfl, hi⟩]
    unfold cm3
    rw [lyM, pt_a (by omega)]
    unfold zM
    rw [if_neg (by omega), if_neg (by omega)]
    unfold cm2 cm1
    rw [up_a _ _ _ _ (by omega)]
    unfold cpF
    rw [if_pos ⟨rfl, hi⟩]
  · rw [if_neg (fun z => hi z.2)]
    unfold cm3
    rw [zM_1 (by omega), cm2_a (by omega) (by omega)]
theorem cbM_t (mu : Mem) (r : Nat) (p t s : Int) : trT (cbM mu r p t s) r = trT mu r := by
  funext w i
  unfold trT
  rw [cbM_1, cbM_1, cbM_1]
theorem cbM_a {mu : Mem} {r : Nat} {p t s : Int} {a : Nat} (h : a < r ∨ (r < a ∧ a ≠ r + 1 ∧ a ≠ r + 4 ∧ (a < r + 6 ∨ r + 15 < a))) (i : Int) : cbM mu r p t s a i = mu a i := by
  unfold cbM
  rw [cpF_off (by omega)]
  unfold cm3
  rw [lyM, pt_a (by omega)]
  unfold zM
  rw [if_neg (by omega), if_neg (by omega), cm2_a (by omega) (by omega)]
theorem cbM_r {mu : Mem} {r : Nat} {p t s i : Int} (h : i ≠ 19) (h9 : i ≠ 9) : cbM mu r p t s r i = mu r i := by
  unfold cbM
  rw [cpF_off (by omega)]
  unfold cm3
  rw [lyM, pt_r]
  unfold zM
  rw [if_neg (by omega), if_neg (by omega), cm2_r h]
theorem dkA_b {T : Mem} {P : Int} (hP : 0 ≤ P ∧ P ≤ 16) (p t s : Int) : 0 ≤ dkA T P p t s ∧ dkA T P p t s ≤ 17 := by
  have := tbT_b (tkT T P p) hP (tkT T P p 9 t)
  unfold dkA; split <;> omega
theorem cm2_R {mu : Mem} {r : Nat} (hR : R32 mu) (hP : 0 ≤ mu (r + 1) 2 ∧ mu (r + 1) 2 ≤ 16) (p t s : Int) : R32 (cm2 mu r p t s) := by
  have := dkA_b (T := trT mu r) hP p t s
  exact R32_up (R32_cpF hR _ _ _) _ _ (by omega)
theorem lyM_R {mu : Mem} {r : Nat} {T : Mem} {q : Int} {Z : Mem} (hR : R32 mu) (hZ : R32Z Z) {N : Int} (hB : TB N T) (hN : N ≤ 1073740000) (hq : -2147483648 ≤ q ∧ q ≤ 2147483647) : R32 (lyM mu r T q Z) := by
  intro a i
  show -2147483648 ≤ ptT (zM mu r q Z) r T a i ∧ ptT (zM mu r q Z) r T a i ≤ 2147483647
  unfold ptT
  split
  · split
    · have := hB.n ((i - 35) % 9).toNat (by omega) (i := (i - 35) / 9) (by omega)
      omega
    · split
      · have := hB.q 9 (by decide) (i := (i - 323) / 2) (by omega)
        omega
      · have := hB.q 10 (by decide) (i := (i - 323) / 2) (by omega)
        omega
  · unfold zM
    split
    · exact hZ (a - r) i (by omega)
    · split
      · exact hq
      · exact hR a i
theorem cmZ_R {mu : Mem} {r : Nat} (hW : MWo mu r) {p t s : Int} (hp : 0 ≤ p ∧ p < 16) (ht : 0 ≤ t ∧ t < 16) (ho : okC mu r p t s) : R32Z (cmZ mu r p t s) :=
  laZ_R (cm2_R hW.1 hW.2.2.1 p t s) (zOf_R (cm2_R hW.1 hW.2.2.1 p t s) r) (dkT_TB hW.2.1 (by decide) hW.2.2.1 hp ht ho.1) (by decide) (hW.1 _ _) (hW.1 _ _) ho.2.1.2.2
theorem cbM_W {mu : Mem} {r : Nat} (hW : MWo mu r) {p t s : Int} (hp : 0 ≤ p ∧ p < 16) (ht : 0 ≤ t ∧ t < 16) (ho : okC mu r p t s) : MWo (cbM mu r p t s) r := by
  have hq := ho.2.1.2.1
  have h3 : R32 (cm3 mu r p t s) := lyM_R (cm2_R hW.1 hW.2.2.1 p t s) (cmZ_R hW hp ht ho) (dkT_TB hW.2.1 (by decide) hW.2.2.1 hp ht ho.1) (by decide) (by unfold cmq; omega)
  refine ⟨R32_cpF h3 _ _ _, ?_, ?_, ?_, ?_⟩
  · rw [cbM_t]; exact hW.2.1
  · rw [cbM_1]; exact hW.2.2.1
  · rw [cbM_r (by decide) (by decide)]; exact hW.2.2.2.1
  · rw [cbM_r (by decide) (by decide)]; exact hW.2.2.2.2
/-- the sides, one behind the other: (memory, best, most) -/
def bsG9 (r : Nat) (p t : Int) (mu : Mem) : Nat → Mem × Int × Int
  | 0 => (cbM mu r p t 0, 0, wr (cbE mu r p t 0))
  | j + 1 => (cbM (bsG9 r p t mu j).1 r p t ((j : Int) + 1), if (bsG9 r p t mu j).2.2 < wr (cbE (bsG9 r p t mu j).1 r p t ((j : Int) + 1)) then (j : Int) + 1 else (bsG9 r p t mu j).2.1,
      if (bsG9 r p t mu j).2.2 < wr (cbE (bsG9 r p t mu j).1 r p t ((j : Int) + 1)) then wr (cbE (bsG9 r p t mu j).1 r p t ((j : Int) + 1)) else (bsG9 r p t mu j).2.2)
section MD
variable {G : Gx} {l : Launch} {S : Sh} {n : Nat} {mu : Mem} {la : Lam} {r : Nat}
set_option maxRecDepth 20000 in
theorem ggX9_cellsBy_X9_copies : GoodIn wsX9_cellsBy wsX9_copies := goodIn_r _ [7] (by decide +kernel) (by decide +kernel)
set_option maxRecDepth 20000 in
theorem gX9_cellsBy_X9_copies : GoodIn wsX9_cellsBy (va_wsS RX9 62 yX9_copies wsX9_copies) := goodIn_app (goodIn_of _ (by decide +kernel)) ggX9_cellsBy_X9_copies
set_option maxRecDepth 20000 in
theorem ggX9_cellsBy_X9_docks : GoodIn wsX9_cellsBy wsX9_docks := goodIn_r _ [11, 2, 12, 13, 14, 15, 6, 16, 17, 18, 19, 20, 21, 22, 23, 24, 25, 26, 27, 28, 29, 30, 31, 32, 33, 34, 35, 36, 37, 38, 39, 40, 41, 42, 43, 44, 45, 46, 47, 48, 49, 50, 51, 52, 53, 54, 55, 56, 57, 58, 59, 60, 61, 62, 63, 64, 65, 66, 67, 68, 69, 70, 71, 72, 73, 74, 133, 134, 135, 136, 137, 138, 139, 140, 141, 142, 143, 144, 145, 146, 147, 148, 149, 150, 151, 152, 153, 154, 155, 156] (by decide +kernel) (by decide +kernel)
set_option maxRecDepth 20000 in
theorem gX9_cellsBy_X9_docks : GoodIn wsX9_cellsBy (wsV RX9 183 RX9 yX9_docks wsX9_docks) := goodIn_app (goodIn_of _ (by decide +kernel)) ggX9_cellsBy_X9_docks
set_option maxRecDepth 20000 in
theorem ggX9_cellsBy_X9_laysAll : GoodIn wsX9_cellsBy wsX9_laysAll := goodIn_r _ [78, 2, 79, 80, 81, 6, 82, 83, 84, 85, 86, 3, 87, 88, 89, 90, 91, 92, 93, 94, 95, 96, 97, 33, 34, 35, 36, 41, 42, 43, 98, 99, 100, 101, 44, 45, 46, 47, 48, 49, 50, 51, 102, 103, 104, 105, 106, 107, 108, 109, 110, 111, 17, 18, 19, 20, 112, 113, 114, 115, 116, 117, 118, 119, 120, 121, 122, 123, 124, 125, 126, 127, 128, 133, 134, 135, 136, 137, 138, 139, 140, 141, 142, 143, 144, 145, 146, 147, 148, 149, 150, 151, 152, 153, 154, 155, 156] (by decide +kernel) (by decide +kernel)
set_option maxRecDepth 20000 in
theorem gX9_cellsBy_X9_laysAll : GoodIn wsX9_cellsBy (wsV RX9 219 RX9 yX9_laysAll wsX9_laysAll) := goodIn_app (goodIn_of _ (by decide +kernel)) ggX9_cellsBy_X9_laysAll
set_option maxRecDepth 20000 in
theorem ggX9_cellsBy_X9_groupOf : GoodIn wsX9_cellsBy wsX9_groupOf := goodIn_r _ [20, 2, 133, 134, 135, 136, 137, 138, 139, 140, 141, 142, 143, 144, 145, 146, 147, 148, 149, 150, 151, 152, 153, 154, 155, 156] (by decide +kernel) (by decide +kernel)
set_option maxRecDepth 20000 in
theorem gX9_cellsBy_X9_groupOf : GoodIn wsX9_cellsBy (wsV RX9 85 RX9 yX9_groupOf wsX9_groupOf) := goodIn_app (goodIn_of _ (by decide +kernel)) ggX9_cellsBy_X9_groupOf
set_option maxRecDepth 20000 in
theorem ggX9_cellsBy_X9_paneHigh : GoodIn wsX9_cellsBy wsX9_paneHigh := goodIn_r _ [132, 87, 133, 134, 135, 136, 137, 138, 139, 140, 141, 142, 143, 144, 145, 146, 147, 148, 149, 150, 151, 152, 153, 154, 155, 156] (by decide +kernel) (by decide +kernel)
set_option maxRecDepth 20000 in
theorem gX9_cellsBy_X9_paneHigh : GoodIn wsX9_cellsBy (wsV RX9 234 RX9 yX9_paneHigh wsX9_paneHigh) := goodIn_app (goodIn_of _ (by decide +kernel)) ggX9_cellsBy_X9_paneHigh
theorem dX9_cellsBy_0 : decode cX9_cellsBy 0 = .ok (.aload_n 0, 1) := by decide +kernel
theorem dX9_cellsBy_1 : decode cX9_cellsBy 1 = .ok (.getfield 19, 3) := by decide +kernel
theorem dX9_cellsBy_4 : decode cX9_cellsBy 4 = .ok (.aload_n 0, 1) := by decide +kernel
theorem dX9_cellsBy_5 : decode cX9_cellsBy 5 = .ok (.getfield 7, 3) := by decide +kernel
theorem dX9_cellsBy_8 : decode cX9_cellsBy 8 = .ok (.invokestatic 62, 3) := by decide +kernel
theorem dX9_cellsBy_11 : decode cX9_cellsBy 11 = .ok (.aload_n 0, 1) := by decide +kernel
theorem dX9_cellsBy_12 : decode cX9_cellsBy 12 = .ok (.iload_n 1, 1) := by decide +kernel
theorem dX9_cellsBy_13 : decode cX9_cellsBy 13 = .ok (.iload_n 2, 1) := by decide +kernel
theorem dX9_cellsBy_14 : decode cX9_cellsBy 14 = .ok (.iload_n 3, 1) := by decide +kernel
theorem dX9_cellsBy_15 : decode cX9_cellsBy 15 = .ok (.invokevirtual 183, 3) := by decide +kernel
theorem dX9_cellsBy_18 : decode cX9_cellsBy 18 = .ok (.aload_n 0, 1) := by decide +kernel
theorem dX9_cellsBy_19 : decode cX9_cellsBy 19 = .ok (.invokevirtual 219, 3) := by decide +kernel
theorem dX9_cellsBy_22 : decode cX9_cellsBy 22 = .ok (.aload_n 0, 1) := by decide +kernel
theorem dX9_cellsBy_23 : decode cX9_cellsBy 23 = .ok (.getfield 40, 3) := by decide +kernel
theorem dX9_cellsBy_26 : decode cX9_cellsBy 26 = .ok (.aload_n 0, 1) := by decide +kernel
theorem dX9_cellsBy_27 : decode cX9_cellsBy 27 = .ok (.iload_n 1, 1) := by decide +kernel
theorem dX9_cellsBy_28 : decode cX9_cellsBy 28 = .ok (.invokevirtual 85, 3) := by decide +kernel
theorem dX9_cellsBy_31 : decode cX9_cellsBy 31 = .ok (.iaload, 1) := by decide +kernel
theorem dX9_cellsBy_32 : decode cX9_cellsBy 32 = .ok (.aload_n 0, 1) := by decide +kernel
theorem dX9_cellsBy_33 : decode cX9_cellsBy 33 = .ok (.aload_n 0, 1) := by decide +kernel
theorem dX9_cellsBy_34 : decode cX9_cellsBy 34 = .ok (.iload_n 1, 1) := by decide +kernel
theorem dX9_cellsBy_35 : decode cX9_cellsBy 35 = .ok (.invokevirtual 85, 3) := by decide +kernel
theorem dX9_cellsBy_38 : decode cX9_cellsBy 38 = .ok (.invokevirtual 234, 3) := by decide +kernel
theorem dX9_cellsBy_41 : decode cX9_cellsBy 41 = .ok (.imul, 1) := by decide +kernel
theorem dX9_cellsBy_42 : decode cX9_cellsBy 42 = .ok (.istore 4, 2) := by decide +kernel
theorem dX9_cellsBy_44 : decode cX9_cellsBy 44 = .ok (.aload_n 0, 1) := by decide +kernel
theorem dX9_cellsBy_45 : decode cX9_cellsBy 45 = .ok (.getfield 7, 3) := by decide +kernel
theorem dX9_cellsBy_48 : decode cX9_cellsBy 48 = .ok (.aload_n 0, 1) := by decide +kernel
theorem dX9_cellsBy_49 : decode cX9_cellsBy 49 = .ok (.getfield 19, 3) := by decide +kernel
theorem dX9_cellsBy_52 : decode cX9_cellsBy 52 = .ok (.invokestatic 62, 3) := by decide +kernel
theorem dX9_cellsBy_55 : decode cX9_cellsBy 55 = .ok (.iload 4, 2) := by decide +kernel
theorem dX9_cellsBy_57 : decode cX9_cellsBy 57 = .ok (.ireturn, 1) := by decide +kernel
theorem hin_X9_cellsBy_X9 : ∀ w ∈ wsX90, w ∈ wsX9_cellsBy := by decide +kernel
theorem lk_X9_cellsBy_19 : Cond.fieldLink RX9 19 RX9 "kept" "[I" ∈ wsX9_cellsBy := by decide +kernel
theorem lk_X9_cellsBy_7 : Cond.fieldLink RX9 7 RX9 "s" "[I" ∈ wsX9_cellsBy := by decide +kernel
theorem lk_X9_cellsBy_40 : Cond.fieldLink RX9 40 RX9 "boxW" "[I" ∈ wsX9_cellsBy := by decide +kernel
theorem m_cellsBy (hG : GP G) (hM : MoS S r) (hW : MWo mu r) {p t s : Int} (hp : 0 ≤ p ∧ p < 16) (ht : 0 ≤ t ∧ t < 16) (hs : 0 ≤ s ∧ s ≤ 4) (ho : okC mu r p t s) : Ct G l yX9_cellsBy wsX9_cellsBy 7 0 0 [.ref r, .int (I32 p), .int (I32 t), .int (I32 s)] S n mu la (Dt (some (.int (I32 (cbE mu r p t s)))) S n (cbM mu r p t s) la) := by
  have o9 := hM.1
  obtain ⟨o1, o2, o3⟩ := ho
  have hP := hW.2.2.1
  have hB2 : TB 10000003 (cmT mu r p t s) := dkT_TB hW.2.1 (by decide) hP hp ht o1
  have bg := hB2.g hp
  have hR2 := cm2_R hW.1 hP p t s
  have hRZ := cmZ_R hW hp ht ⟨o1, o2, o3⟩
  have e12 : cm1 mu r (r + 1) 2 = mu (r + 1) 2 := cpF_off (by omega) 2
  have e20 : cm2 mu r p t s (r + 1) 0 = mu (r + 1) 0 := cm2_a (by omega) (by omega) 0
  have e21 : cm2 mu r p t s (r + 1) 1 = mu (r + 1) 1 := cm2_a (by omega) (by omega) 1
  have e22 : cm2 mu r p t s (r + 1) 2 = mu (r + 1) 2 := cm2_a (by omega) (by omega) 2
  refine Ct.ofV (cc := cX9_cellsBy) (nL := 5) (ret := (some .int)) [some (.ref r), some (.int (I32 p)), some (.int (I32 t)), some (.int (I32 s)), none] hG (by decide) rfl (Nat.le_of_ble_eq_true rfl) rfl ?_
  rintro X rfl rfl C hcl hsl E
  refine V_aload_n C dX9_cellsBy_0 rfl ?_
  refine V_getR C 3 dX9_cellsBy_1 o9 rfl hin_X9_cellsBy_X9 (by decide) lk_X9_cellsBy_19 rfl rfl ?_
  refine V_aload_n C dX9_cellsBy_4 rfl ?_
  refine V_getR C 0 dX9_cellsBy_5 o9 rfl hin_X9_cellsBy_X9 (by decide) lk_X9_cellsBy_7 rfl rfl ?_
  refine V_callSD (nA := 2) C dX9_cellsBy_8 (m_copies C.gp hM.2.1 hM.2.2.2.2.1) gX9_cellsBy_X9_copies rfl (by decide +kernel) rfl (by decide) (by decide) (Nat.le_of_ble_eq_true rfl) ⟨by omega, by omega⟩ rfl ?_
  have eT : trT (cm1 mu r) r = trT mu r := by
    funext w i
    unfold trT cm1
    rw [cpF_off (by omega), cpF_off (by omega), cpF_off (by omega)]
  have e1 : cpF mu (r + 1) (r + 4) 1639 = ptT (cm1 mu r) r (trT mu r) := by
    rw [← eT, pt_self]; rfl
  rw [e1]
  have hdk := m_docks (l := xL X) (n := n) (la := la) (mu := cm1 mu r) (T := trT mu r) C.gp hM hW.2.1 (by decide) (by rw [e12]; exact hP) hp ht hs (by rw [e12]; exact o1)
  rw [e12] at hdk
  refine V_aload_n C dX9_cellsBy_11 rfl ?_
  refine V_iload_n C dX9_cellsBy_12 rfl ?_
  refine V_iload_n C dX9_cellsBy_13 rfl ?_
  refine V_iload_n C dX9_cellsBy_14 rfl ?_
  refine V_callVD (nA := 3) C dX9_cellsBy_15 hdk gX9_cellsBy_X9_docks rfl o9 rfl (by decide +kernel) rfl (by decide) (by decide) (Nat.le_of_ble_eq_true rfl) ⟨by omega, by omega⟩ rfl ?_
  rw [show ptT (up (cm1 mu r) r 19 (dkA (trT mu r) (mu (r + 1) 2) p t s)) r (dkT (trT mu r) (mu (r + 1) 2) p t s) = ptT (cm2 mu r p t s) r (cmT mu r p t s) from rfl, ptT_ly]
  have hly := m_laysAll (l := xL X) (n := n) (la := la) (mu := cm2 mu r p t s) (T := cmT mu r p t s) (Z := zOf (cm2 mu r p t s) r) (q0 := cm2 mu r p t s r 9) C.gp hM hR2 (zOf_R hR2 r) hB2 (by decide) (by rw [e22]; exact hP) o2.1 o2.2.1.2 o2.2.1.1 (by rw [e20, e21]; exact o2.2.2)
  rw [e20, e21] at hly
  refine V_aload_n C dX9_cellsBy_18 rfl ?_
  refine V_callVD (nA := 0) C dX9_cellsBy_19 hly gX9_cellsBy_X9_laysAll rfl o9 rfl (by decide +kernel) rfl (by decide) (by decide) (Nat.le_of_ble_eq_true rfl) ⟨by omega, by omega⟩ rfl ?_
  rw [show lyM (cm2 mu r p t s) r (cmT mu r p t s) (quT (cmT mu r p t s) (zOf (cm2 mu r p t s) r)).1 (laZ (cm2 mu r p t s) r (cmT mu r p t s) (zOf (cm2 mu r p t s) r) (mu (r + 1) 0) (mu (r + 1) 1)) = lyM (cm2 mu r p t s) r (cmT mu r p t s) (cmq mu r p t s) (cmZ mu r p t s) from rfl]
  refine V_aload_n C dX9_cellsBy_22 rfl ?_
  refine V_getR C 14 dX9_cellsBy_23 o9 rfl hin_X9_cellsBy_X9 (by decide) lk_X9_cellsBy_40 rfl rfl ?_
  refine V_aload_n C dX9_cellsBy_26 rfl ?_
  refine V_iload_n C dX9_cellsBy_27 rfl ?_
  refine V_callVD (nA := 1) C dX9_cellsBy_28 (m_groupOf C.gp hM hp) gX9_cellsBy_X9_groupOf rfl o9 rfl (by decide +kernel) rfl (by decide) (by decide) (Nat.le_of_ble_eq_true rfl) ⟨by omega, by omega⟩ rfl ?_
  refine V_ialdJ C dX9_cellsBy_31 (hM.k ⟨by decide,by decide⟩) (by first | assumption | decide) (by omega) (zM_k (by decide)) ?_
  refine V_aload_n C dX9_cellsBy_32 rfl ?_
  refine V_aload_n C dX9_cellsBy_33 rfl ?_
  refine V_iload_n C dX9_cellsBy_34 rfl ?_
  refine V_callVD (nA := 1) C dX9_cellsBy_35 (m_groupOf C.gp hM hp) gX9_cellsBy_X9_groupOf rfl o9 rfl (by decide +kernel) rfl (by decide) (by decide) (Nat.le_of_ble_eq_true rfl) ⟨by omega, by omega⟩ rfl ?_
  refine V_callVD (nA := 1) C dX9_cellsBy_38 (m_paneHigh C.gp hM hRZ (by omega)) gX9_cellsBy_X9_paneHigh rfl o9 rfl (by decide +kernel) rfl (by decide) (by decide) (Nat.le_of_ble_eq_true rfl) ⟨by omega, by omega⟩ rfl ?_
  refine V_imul C dX9_cellsBy_41 ?_
  refine V_istore C dX9_cellsBy_42 rfl (by decide) ?_
  refine V_aload_n C dX9_cellsBy_44 rfl ?_
  refine V_getR C 0 dX9_cellsBy_45 o9 rfl hin_X9_cellsBy_X9 (by decide) lk_X9_cellsBy_7 rfl rfl ?_
  refine V_aload_n C dX9_cellsBy_48 rfl ?_
  refine V_getR C 3 dX9_cellsBy_49 o9 rfl hin_X9_cellsBy_X9 (by decide) lk_X9_cellsBy_19 rfl rfl ?_
  refine V_callSD (nA := 2) C dX9_cellsBy_52 (m_copies C.gp hM.2.2.2.2.1 hM.2.1) gX9_cellsBy_X9_copies rfl (by decide +kernel) rfl (by decide) (by decide) (Nat.le_of_ble_eq_true rfl) ⟨by omega, by omega⟩ rfl ?_
  refine V_iload C dX9_cellsBy_55 rfl ?_
  refine V_ireturn C E dX9_cellsBy_57 (by omega) (by omega) ?_
  exact Dt_rfl
set_option maxRecDepth 20000 in
theorem ggX9_cellsIf_X9_mayDock : GoodIn wsX9_cellsIf wsX9_mayDock := goodIn_r _ [5, 6, 7, 8, 4, 9, 10, 11, 12, 13, 14, 15, 16, 17, 18, 19, 20, 21, 22, 23, 24, 25, 158, 159, 160, 161, 162, 163, 164, 165, 166, 167, 168, 169, 170, 171, 172, 173, 174, 175, 176, 177, 178, 179, 180, 181] (by decide +kernel) (by decide +kernel)
set_option maxRecDepth 20000 in
theorem gX9_cellsIf_X9_mayDock : GoodIn wsX9_cellsIf (wsV RX9 179 RX9 yX9_mayDock wsX9_mayDock) := goodIn_app (goodIn_of _ (by decide +kernel)) ggX9_cellsIf_X9_mayDock
set_option maxRecDepth 20000 in
theorem ggX9_cellsIf_X9_fails : GoodIn wsX9_cellsIf wsX9_fails := goodIn_r _ [29, 30, 158, 159, 160, 161, 162, 163, 164, 165, 166, 167, 168, 169, 170, 171, 172, 173, 174, 175, 176, 177, 178, 179, 180, 181] (by decide +kernel) (by decide +kernel)
set_option maxRecDepth 20000 in
theorem gX9_cellsIf_X9_fails : GoodIn wsX9_cellsIf (wsV RX9 147 RX9 yX9_fails wsX9_fails) := goodIn_app (goodIn_of _ (by decide +kernel)) ggX9_cellsIf_X9_fails
set_option maxRecDepth 20000 in
theorem ggX9_cellsIf_X9_cellsBy : GoodIn wsX9_cellsIf wsX9_cellsBy := goodIn_s _ [(34, 2), (10, 1), (36, 3), (4, 1), (39, 10), (18, 4), (49, 12), (22, 4), (61, 4), (11, 3), (65, 89), (158, 24)] (by rfl) (by decide +kernel)
set_option maxRecDepth 20000 in
theorem gX9_cellsIf_X9_cellsBy : GoodIn wsX9_cellsIf (wsV RX9 283 RX9 yX9_cellsBy wsX9_cellsBy) := goodIn_app (goodIn_of _ (by decide +kernel)) ggX9_cellsIf_X9_cellsBy
set_option maxRecDepth 20000 in
theorem ggX9_cellsIf_X9_tells : GoodIn wsX9_cellsIf wsX9_tells := goodIn_r _ [157, 30, 158, 159, 160, 161, 162, 163, 164, 165, 166, 167, 168, 169, 170, 171, 172, 173, 174, 175, 176, 177, 178, 179, 180, 181] (by decide +kernel) (by decide +kernel)
set_option maxRecDepth 20000 in
theorem gX9_cellsIf_X9_tells : GoodIn wsX9_cellsIf (wsV RX9 69 RX9 yX9_tells wsX9_tells) := goodIn_app (goodIn_of _ (by decide +kernel)) ggX9_cellsIf_X9_tells
theorem dX9_cellsIf_0 : decode cX9_cellsIf 0 = .ok (.aload_n 0, 1) := by decide +kernel
theorem dX9_cellsIf_1 : decode cX9_cellsIf 1 = .ok (.iload_n 1, 1) := by decide +kernel
theorem dX9_cellsIf_2 : decode cX9_cellsIf 2 = .ok (.iload_n 2, 1) := by decide +kernel
theorem dX9_cellsIf_3 : decode cX9_cellsIf 3 = .ok (.iload_n 3, 1) := by decide +kernel
theorem dX9_cellsIf_4 : decode cX9_cellsIf 4 = .ok (.invokevirtual 179, 3) := by decide +kernel
theorem dX9_cellsIf_7 : decode cX9_cellsIf 7 = .ok (.istore 4, 2) := by decide +kernel
theorem dX9_cellsIf_9 : decode cX9_cellsIf 9 = .ok (.iload 4, 2) := by decide +kernel
theorem dX9_cellsIf_11 : decode cX9_cellsIf 11 = .ok (.ifCond .le 12, 3) := by decide +kernel
theorem dX9_cellsIf_14 : decode cX9_cellsIf 14 = .ok (.aload_n 0, 1) := by decide +kernel
theorem dX9_cellsIf_15 : decode cX9_cellsIf 15 = .ok (.iload 4, 2) := by decide +kernel
theorem dX9_cellsIf_17 : decode cX9_cellsIf 17 = .ok (.invokevirtual 147, 3) := by decide +kernel
theorem dX9_cellsIf_20 : decode cX9_cellsIf 20 = .ok (.goto 14, 3) := by decide +kernel
theorem dX9_cellsIf_23 : decode cX9_cellsIf 23 = .ok (.aload_n 0, 1) := by decide +kernel
theorem dX9_cellsIf_24 : decode cX9_cellsIf 24 = .ok (.aload_n 0, 1) := by decide +kernel
theorem dX9_cellsIf_25 : decode cX9_cellsIf 25 = .ok (.iload_n 1, 1) := by decide +kernel
theorem dX9_cellsIf_26 : decode cX9_cellsIf 26 = .ok (.iload_n 2, 1) := by decide +kernel
theorem dX9_cellsIf_27 : decode cX9_cellsIf 27 = .ok (.iload_n 3, 1) := by decide +kernel
theorem dX9_cellsIf_28 : decode cX9_cellsIf 28 = .ok (.invokevirtual 283, 3) := by decide +kernel
theorem dX9_cellsIf_31 : decode cX9_cellsIf 31 = .ok (.invokevirtual 69, 3) := by decide +kernel
theorem dX9_cellsIf_34 : decode cX9_cellsIf 34 = .ok (.ireturn, 1) := by decide +kernel
theorem p_cellsIf (hG : GP G) (hM : MoS S r) (hW : MWo mu r) {x y z : Int} (hx : -2147483648 ≤ x ∧ x ≤ 2147483647) (hy : -2147483648 ≤ y ∧ y ≤ 2147483647) (hz : -2147483648 ≤ z ∧ z ≤ 2147483647) (ho : mcF (trT mu r) (mu (r + 1) 2) x y z = 0 → okC mu r x y z) : Ct G l yX9_cellsIf wsX9_cellsIf 8 0 0 [.ref r, .int (I32 x), .int (I32 y), .int (I32 z)] S n mu la (Dt (some (.int (I32 (if mcF (trT mu r) (mu (r + 1) 2) x y z = 0 then cbE mu r x y z else 0)))) S n (if mcF (trT mu r) (mu (r + 1) 2) x y z = 0 then up (cbM mu r x y z) r 7 0 else up mu r 7 (mcF (trT mu r) (mu (r + 1) 2) x y z)) la) := by
  have o9 := hM.1
  have hP := hW.2.2.1
  have bm : 0 ≤ mcF (trT mu r) (mu (r + 1) 2) x y z ∧ mcF (trT mu r) (mu (r + 1) 2) x y z ≤ 3 := by unfold mcF; (repeat' split) <;> omega
  have bz : mcF (trT mu r) (mu (r + 1) 2) x y z = 0 → (0 ≤ x ∧ x < 16) ∧ (0 ≤ y ∧ y < 16) ∧ 0 ≤ z ∧ z ≤ 4 := by unfold mcF; (repeat' split) <;> omega
  refine Ct.ofV (cc := cX9_cellsIf) (nL := 5) (ret := (some .int)) [some (.ref r), some (.int (I32 x)), some (.int (I32 y)), some (.int (I32 z)), none] hG (by decide) rfl (Nat.le_of_ble_eq_true rfl) rfl ?_
  rintro X rfl rfl C hcl hsl E
  have h9 := m_mayDock (l := xL X) (n := n) (la := la) (mu := mu) (T := trT mu r) C.gp hM hW.2.1 (by decide) hP hx hy hz
  rw [pt_self] at h9
  refine V_aload_n C dX9_cellsIf_0 rfl ?_
  refine V_iload_n C dX9_cellsIf_1 rfl ?_
  refine V_iload_n C dX9_cellsIf_2 rfl ?_
  refine V_iload_n C dX9_cellsIf_3 rfl ?_
  refine V_callVD (nA := 3) C dX9_cellsIf_4 h9 gX9_cellsIf_X9_mayDock rfl o9 rfl (by decide +kernel) rfl (by decide) (by decide) (Nat.le_of_ble_eq_true rfl) ⟨by omega, by omega⟩ rfl ?_
  generalize mcF (trT mu r) (mu (r + 1) 2) x y z = m at bm bz ho E
  refine V_istore C dX9_cellsIf_7 rfl (by decide) ?_
  refine V_iload C dX9_cellsIf_9 rfl ?_
  refine V_if_le C 23 dX9_cellsIf_11 (by decide) (by omega) (fun z1 => ?_) (fun z1 => ?_)
  · have hm : m = 0 := by omega
    obtain ⟨c1, c2, c3⟩ := bz hm
    rw [if_pos hm, if_pos hm] at E
    refine V_aload_n C dX9_cellsIf_23 rfl ?_
    refine V_aload_n C dX9_cellsIf_24 rfl ?_
    refine V_iload_n C dX9_cellsIf_25 rfl ?_
    refine V_iload_n C dX9_cellsIf_26 rfl ?_
    refine V_iload_n C dX9_cellsIf_27 rfl ?_
    refine V_callVD (nA := 3) C dX9_cellsIf_28 (m_cellsBy C.gp hM hW c1 c2 c3 (ho hm)) gX9_cellsIf_X9_cellsBy rfl o9 rfl (by decide +kernel) rfl (by decide) (by decide) (Nat.le_of_ble_eq_true rfl) ⟨by omega, by omega⟩ rfl ?_
    refine V_callVD (nA := 1) C dX9_cellsIf_31 (m_tells C.gp hM) gX9_cellsIf_X9_tells rfl o9 rfl (by decide +kernel) rfl (by decide) (by decide) (Nat.le_of_ble_eq_true rfl) ⟨by omega, by omega⟩ rfl ?_
    refine V_ireturn C E dX9_cellsIf_34 (by omega) (by omega) ?_
    exact Dt_rfl
  · rw [if_neg (show ¬ m = 0 by omega), if_neg (show ¬ m = 0 by omega)] at E
    refine V_aload_n C dX9_cellsIf_14 rfl ?_
    refine V_iload C dX9_cellsIf_15 rfl ?_
    refine V_callVD (nA := 1) C dX9_cellsIf_17 (m_fails C.gp hM) gX9_cellsIf_X9_fails rfl o9 rfl (by decide +kernel) rfl (by decide) (by decide) (Nat.le_of_ble_eq_true rfl) ⟨by omega, by omega⟩ rfl ?_
    refine V_goto C 34 dX9_cellsIf_20 (by decide) ?_
    refine V_ireturn C E dX9_cellsIf_34 (by omega) (by omega) ?_
    exact Dt_rfl
set_option maxRecDepth 20000 in
theorem ggX9_bestSide_X9_isPane : GoodIn wsX9_bestSide wsX9_isPane := goodIn_r _ [5, 6, 7, 8, 4, 9, 154, 155, 156, 157, 158, 159, 160, 161, 162, 163, 164, 165, 166, 167, 168, 169, 170, 171, 172, 173, 174, 175, 176, 177] (by decide +kernel) (by decide +kernel)
set_option maxRecDepth 20000 in
theorem gX9_bestSide_X9_isPane : GoodIn wsX9_bestSide (wsV RX9 156 RX9 yX9_isPane wsX9_isPane) := goodIn_app (goodIn_of _ (by decide +kernel)) ggX9_bestSide_X9_isPane
set_option maxRecDepth 20000 in
theorem ggX9_bestSide_X9_fails : GoodIn wsX9_bestSide wsX9_fails := goodIn_r _ [13, 14, 154, 155, 156, 157, 158, 159, 160, 161, 162, 163, 164, 165, 166, 167, 168, 169, 170, 171, 172, 173, 174, 175, 176, 177] (by decide +kernel) (by decide +kernel)
set_option maxRecDepth 20000 in
theorem gX9_bestSide_X9_fails : GoodIn wsX9_bestSide (wsV RX9 147 RX9 yX9_fails wsX9_fails) := goodIn_app (goodIn_of _ (by decide +kernel)) ggX9_bestSide_X9_fails
set_option maxRecDepth 20000 in
theorem ggX9_bestSide_X9_stateOf : GoodIn wsX9_bestSide wsX9_stateOf := goodIn_r _ [18, 19, 20, 21, 4, 22, 6, 23, 24, 25, 26, 154, 155, 156, 157, 158, 159, 160, 161, 162, 163, 164, 165, 166, 167, 168, 169, 170, 171, 172, 173, 174, 175, 176, 177] (by decide +kernel) (by decide +kernel)
set_option maxRecDepth 20000 in
theorem gX9_bestSide_X9_stateOf : GoodIn wsX9_bestSide (wsV RX9 159 RX9 yX9_stateOf wsX9_stateOf) := goodIn_app (goodIn_of _ (by decide +kernel)) ggX9_bestSide_X9_stateOf
set_option maxRecDepth 20000 in
theorem ggX9_bestSide_X9_cellsBy : GoodIn wsX9_bestSide wsX9_cellsBy := goodIn_s _ [(30, 2), (6, 1), (32, 3), (4, 1), (35, 10), (19, 4), (45, 12), (23, 4), (57, 4), (7, 3), (61, 89), (154, 24)] (by rfl) (by decide +kernel)
set_option maxRecDepth 20000 in
theorem gX9_bestSide_X9_cellsBy : GoodIn wsX9_bestSide (wsV RX9 283 RX9 yX9_cellsBy wsX9_cellsBy) := goodIn_app (goodIn_of _ (by decide +kernel)) ggX9_bestSide_X9_cellsBy
set_option maxRecDepth 20000 in
theorem ggX9_bestSide_X9_tells : GoodIn wsX9_bestSide wsX9_tells := goodIn_r _ [153, 14, 154, 155, 156, 157, 158, 159, 160, 161, 162, 163, 164, 165, 166, 167, 168, 169, 170, 171, 172, 173, 174, 175, 176, 177] (by decide +kernel) (by decide +kernel)
set_option maxRecDepth 20000 in
theorem gX9_bestSide_X9_tells : GoodIn wsX9_bestSide (wsV RX9 69 RX9 yX9_tells wsX9_tells) := goodIn_app (goodIn_of _ (by decide +kernel)) ggX9_bestSide_X9_tells
theorem dX9_bestSide_0 : decode cX9_bestSide 0 = .ok (.aload_n 0, 1) := by decide +kernel
theorem dX9_bestSide_1 : decode cX9_bestSide 1 = .ok (.iload_n 1, 1) := by decide +kernel
theorem dX9_bestSide_2 : decode cX9_bestSide 2 = .ok (.invokevirtual 156, 3) := by decide +kernel
theorem dX9_bestSide_5 : decode cX9_bestSide 5 = .ok (.ifCond .eq 11, 3) := by decide +kernel
theorem dX9_bestSide_8 : decode cX9_bestSide 8 = .ok (.aload_n 0, 1) := by decide +kernel
theorem dX9_bestSide_9 : decode cX9_bestSide 9 = .ok (.iload_n 2, 1) := by decide +kernel
theorem dX9_bestSide_10 : decode cX9_bestSide 10 = .ok (.invokevirtual 156, 3) := by decide +kernel
theorem dX9_bestSide_13 : decode cX9_bestSide 13 = .ok (.ifCond .ne 9, 3) := by decide +kernel
theorem dX9_bestSide_16 : decode cX9_bestSide 16 = .ok (.aload_n 0, 1) := by decide +kernel
theorem dX9_bestSide_17 : decode cX9_bestSide 17 = .ok (.iconst 1, 1) := by decide +kernel
theorem dX9_bestSide_18 : decode cX9_bestSide 18 = .ok (.invokevirtual 147, 3) := by decide +kernel
theorem dX9_bestSide_21 : decode cX9_bestSide 21 = .ok (.ireturn, 1) := by decide +kernel
theorem dX9_bestSide_22 : decode cX9_bestSide 22 = .ok (.iload_n 1, 1) := by decide +kernel
theorem dX9_bestSide_23 : decode cX9_bestSide 23 = .ok (.iload_n 2, 1) := by decide +kernel
theorem dX9_bestSide_24 : decode cX9_bestSide 24 = .ok (.if_icmp .ne 9, 3) := by decide +kernel
theorem dX9_bestSide_27 : decode cX9_bestSide 27 = .ok (.aload_n 0, 1) := by decide +kernel
theorem dX9_bestSide_28 : decode cX9_bestSide 28 = .ok (.iconst 2, 1) := by decide +kernel
theorem dX9_bestSide_29 : decode cX9_bestSide 29 = .ok (.invokevirtual 147, 3) := by decide +kernel
theorem dX9_bestSide_32 : decode cX9_bestSide 32 = .ok (.ireturn, 1) := by decide +kernel
theorem dX9_bestSide_33 : decode cX9_bestSide 33 = .ok (.aload_n 0, 1) := by decide +kernel
theorem dX9_bestSide_34 : decode cX9_bestSide 34 = .ok (.iload_n 2, 1) := by decide +kernel
theorem dX9_bestSide_35 : decode cX9_bestSide 35 = .ok (.invokevirtual 159, 3) := by decide +kernel
theorem dX9_bestSide_38 : decode cX9_bestSide 38 = .ok (.iconst 1, 1) := by decide +kernel
theorem dX9_bestSide_39 : decode cX9_bestSide 39 = .ok (.if_icmp .eq 9, 3) := by decide +kernel
theorem dX9_bestSide_42 : decode cX9_bestSide 42 = .ok (.aload_n 0, 1) := by decide +kernel
theorem dX9_bestSide_43 : decode cX9_bestSide 43 = .ok (.iconst 3, 1) := by decide +kernel
theorem dX9_bestSide_44 : decode cX9_bestSide 44 = .ok (.invokevirtual 147, 3) := by decide +kernel
theorem dX9_bestSide_47 : decode cX9_bestSide 47 = .ok (.ireturn, 1) := by decide +kernel
theorem dX9_bestSide_48 : decode cX9_bestSide 48 = .ok (.iconst 0, 1) := by decide +kernel
theorem dX9_bestSide_49 : decode cX9_bestSide 49 = .ok (.istore_n 3, 1) := by decide +kernel
theorem dX9_bestSide_50 : decode cX9_bestSide 50 = .ok (.aload_n 0, 1) := by decide +kernel
theorem dX9_bestSide_51 : decode cX9_bestSide 51 = .ok (.iload_n 1, 1) := by decide +kernel
theorem dX9_bestSide_52 : decode cX9_bestSide 52 = .ok (.iload_n 2, 1) := by decide +kernel
theorem dX9_bestSide_53 : decode cX9_bestSide 53 = .ok (.iconst 0, 1) := by decide +kernel
theorem dX9_bestSide_54 : decode cX9_bestSide 54 = .ok (.invokevirtual 283, 3) := by decide +kernel
theorem dX9_bestSide_57 : decode cX9_bestSide 57 = .ok (.istore 4, 2) := by decide +kernel
theorem dX9_bestSide_59 : decode cX9_bestSide 59 = .ok (.iconst 1, 1) := by decide +kernel
theorem dX9_bestSide_60 : decode cX9_bestSide 60 = .ok (.istore 5, 2) := by decide +kernel
theorem dX9_bestSide_62 : decode cX9_bestSide 62 = .ok (.iload 5, 2) := by decide +kernel
theorem dX9_bestSide_64 : decode cX9_bestSide 64 = .ok (.iconst 4, 1) := by decide +kernel
theorem dX9_bestSide_65 : decode cX9_bestSide 65 = .ok (.if_icmp .ge 49, 3) := by decide +kernel
theorem dX9_bestSide_68 : decode cX9_bestSide 68 = .ok (.aload_n 0, 1) := by decide +kernel
theorem dX9_bestSide_69 : decode cX9_bestSide 69 = .ok (.iload_n 1, 1) := by decide +kernel
theorem dX9_bestSide_70 : decode cX9_bestSide 70 = .ok (.iload_n 2, 1) := by decide +kernel
theorem dX9_bestSide_71 : decode cX9_bestSide 71 = .ok (.iload 5, 2) := by decide +kernel
theorem dX9_bestSide_73 : decode cX9_bestSide 73 = .ok (.invokevirtual 283, 3) := by decide +kernel
theorem dX9_bestSide_76 : decode cX9_bestSide 76 = .ok (.istore 6, 2) := by decide +kernel
theorem dX9_bestSide_78 : decode cX9_bestSide 78 = .ok (.iload 6, 2) := by decide +kernel
theorem dX9_bestSide_80 : decode cX9_bestSide 80 = .ok (.iload 4, 2) := by decide +kernel
theorem dX9_bestSide_82 : decode cX9_bestSide 82 = .ok (.if_icmp .le 8, 3) := by decide +kernel
theorem dX9_bestSide_85 : decode cX9_bestSide 85 = .ok (.iload 5, 2) := by decide +kernel
theorem dX9_bestSide_87 : decode cX9_bestSide 87 = .ok (.goto 4, 3) := by decide +kernel
theorem dX9_bestSide_90 : decode cX9_bestSide 90 = .ok (.iload_n 3, 1) := by decide +kernel
theorem dX9_bestSide_91 : decode cX9_bestSide 91 = .ok (.istore_n 3, 1) := by decide +kernel
theorem dX9_bestSide_92 : decode cX9_bestSide 92 = .ok (.iload 6, 2) := by decide +kernel
theorem dX9_bestSide_94 : decode cX9_bestSide 94 = .ok (.iload 4, 2) := by decide +kernel
theorem dX9_bestSide_96 : decode cX9_bestSide 96 = .ok (.if_icmp .le 8, 3) := by decide +kernel
theorem dX9_bestSide_99 : decode cX9_bestSide 99 = .ok (.iload 6, 2) := by decide +kernel
theorem dX9_bestSide_101 : decode cX9_bestSide 101 = .ok (.goto 5, 3) := by decide +kernel
theorem dX9_bestSide_104 : decode cX9_bestSide 104 = .ok (.iload 4, 2) := by decide +kernel
theorem dX9_bestSide_106 : decode cX9_bestSide 106 = .ok (.istore 4, 2) := by decide +kernel
theorem dX9_bestSide_108 : decode cX9_bestSide 108 = .ok (.iinc 5 1, 3) := by decide +kernel
theorem dX9_bestSide_111 : decode cX9_bestSide 111 = .ok (.goto (-49), 3) := by decide +kernel
theorem dX9_bestSide_114 : decode cX9_bestSide 114 = .ok (.aload_n 0, 1) := by decide +kernel
theorem dX9_bestSide_115 : decode cX9_bestSide 115 = .ok (.iload_n 3, 1) := by decide +kernel
theorem dX9_bestSide_116 : decode cX9_bestSide 116 = .ok (.invokevirtual 69, 3) := by decide +kernel
theorem dX9_bestSide_119 : decode cX9_bestSide 119 = .ok (.ireturn, 1) := by decide +kernel
def bsF9 (T : Mem) (P p t : Int) : Int := if ¬ (0 ≤ p ∧ p ≤ P - 1) ∨ ¬ (0 ≤ t ∧ t ≤ P - 1) then 1 else if p = t then 2 else if sxT T t = 1 then 0 else 3
theorem bsG9_b {mu : Mem} {r : Nat} {p t : Int} : ∀ j : Nat, j ≤ 3 → (0 ≤ (bsG9 r p t mu j).2.1 ∧ (bsG9 r p t mu j).2.1 ≤ 3) ∧ (-2147483648 ≤ (bsG9 r p t mu j).2.2 ∧ (bsG9 r p t mu j).2.2 ≤ 2147483647)
  | 0, _ => ⟨by show 0 ≤ (0 : Int) ∧ (0 : Int) ≤ 3; omega, wr_b _⟩
  | j + 1, hj => by
    have h := bsG9_b (mu := mu) (r := r) (p := p) (t := t) j (by omega)
    have b := wr_b (cbE (bsG9 r p t mu j).1 r p t ((j : Int) + 1))
    rw [bsG9]
    dsimp only
    constructor <;> split <;> omega
theorem p_bestSide (hG : GP G) (hM : MoS S r) (hW : MWo mu r) {x y : Int} (hx : -2147483648 ≤ x ∧ x ≤ 2147483647) (hy : -2147483648 ≤ y ∧ y ≤ 2147483647) (ho : bsF9 (trT mu r) (mu (r + 1) 2) x y = 0 → okC mu r x y 0 ∧ ∀ j : Nat, j < 3 → MWo (bsG9 r x y mu j).1 r ∧ okC (bsG9 r x y mu j).1 r x y ((j : Int) + 1)) : Ct G l yX9_bestSide wsX9_bestSide 8 0 0 [.ref r, .int (I32 x), .int (I32 y)] S n mu la (Dt (some (.int (I32 (if bsF9 (trT mu r) (mu (r + 1) 2) x y = 0 then (bsG9 r x y mu 3).2.1 else 0)))) S n (if bsF9 (trT mu r) (mu (r + 1) 2) x y = 0 then up (bsG9 r x y mu 3).1 r 7 0 else up mu r 7 (bsF9 (trT mu r) (mu (r + 1) 2) x y)) la) := by
  have o9 := hM.1
  have hP := hW.2.2.1
  have bs := sxT_b (trT mu r) y
  refine Ct.ofV (cc := cX9_bestSide) (nL := 7) (ret := (some .int)) [some (.ref r), some (.int (I32 x)), some (.int (I32 y)), none, none, none, none] hG (by decide) rfl (Nat.le_of_ble_eq_true rfl) rfl ?_
  rintro X rfl rfl C hcl hsl E
  have bad : (¬ (0 ≤ x ∧ x ≤ mu (r + 1) 2 - 1) ∨ ¬ (0 ≤ y ∧ y ≤ mu (r + 1) 2 - 1)) → V X 16 [some (.ref r), some (.int (I32 x)), some (.int (I32 y)), none, none, none, none] [] S n mu la 0 0 := by
    intro hq
    have e0 : bsF9 (trT mu r) (mu (r + 1) 2) x y = 1 := by unfold bsF9; rw [if_pos hq]
    rw [e0, if_neg (by decide), if_neg (by decide)] at E
    refine V_aload_n C dX9_bestSide_16 rfl ?_
    refine V_iconst C dX9_bestSide_17 ?_
    refine V_callVD (nA := 1) C dX9_bestSide_18 (m_fails C.gp hM) gX9_bestSide_X9_fails rfl o9 rfl (by decide +kernel) rfl (by decide) (by decide) (Nat.le_of_ble_eq_true rfl) ⟨by omega, by omega⟩ rfl ?_
    refine V_ireturn C E dX9_bestSide_21 (by omega) (by omega) ?_
    exact Dt_rfl
  refine V_aload_n C dX9_bestSide_0 rfl ?_
  refine V_iload_n C dX9_bestSide_1 rfl ?_
  refine V_callVD (nA := 1) C dX9_bestSide_2 (m_isPane C.gp hM hP hx) gX9_bestSide_X9_isPane rfl o9 rfl (by decide +kernel) rfl (by decide) (by decide) (Nat.le_of_ble_eq_true rfl) ⟨by omega, by omega⟩ rfl ?_
  by_cases hb : 0 ≤ x ∧ x ≤ mu (r + 1) 2 - 1
  · rw [inI_1 hb]
    refine V_if_eq C 16 dX9_bestSide_5 (by decide) (by omega) (fun z0 => ?_) (fun z0 => ?_)
    · exact absurd z0 (by decide)
    · refine V_aload_n C dX9_bestSide_8 rfl ?_
      refine V_iload_n C dX9_bestSide_9 rfl ?_
      refine V_callVD (nA := 1) C dX9_bestSide_10 (m_isPane C.gp hM hP hy) gX9_bestSide_X9_isPane rfl o9 rfl (by decide +kernel) rfl (by decide) (by decide) (Nat.le_of_ble_eq_true rfl) ⟨by omega, by omega⟩ rfl ?_
      by_cases hc : 0 ≤ y ∧ y ≤ mu (r + 1) 2 - 1
      · rw [inI_1 hc]
        refine V_if_ne C 22 dX9_bestSide_13 (by decide) (by omega) (fun z1 => ?_) (fun z1 => ?_)
        · refine V_iload_n C dX9_bestSide_22 rfl ?_
          refine V_iload_n C dX9_bestSide_23 rfl ?_
          refine V_icmp_ne C 33 dX9_bestSide_24 (by decide) (by omega) (by omega) (fun z2 => ?_) (fun z2 => ?_)
          · have h9 := m_stateOf (l := xL X) (n := n) (la := la) (mu := mu) (T := trT mu r) C.gp hM hW.2.1 (by decide) (x := y) (by omega)
            rw [pt_self] at h9
            refine V_aload_n C dX9_bestSide_33 rfl ?_
            refine V_iload_n C dX9_bestSide_34 rfl ?_
            refine V_callVD (nA := 1) C dX9_bestSide_35 h9 gX9_bestSide_X9_stateOf rfl o9 rfl (by decide +kernel) rfl (by decide) (by decide) (Nat.le_of_ble_eq_true rfl) ⟨by omega, by omega⟩ rfl ?_
            refine V_iconst C dX9_bestSide_38 ?_
            refine V_icmp_eq C 48 dX9_bestSide_39 (by decide) (by omega) (by omega) (fun z3 => ?_) (fun z3 => ?_)
            · have e0 : bsF9 (trT mu r) (mu (r + 1) 2) x y = 0 := by unfold bsF9; (repeat' split) <;> omega
              rw [e0, if_pos rfl, if_pos rfl] at E
              obtain ⟨ho0, hoj⟩ := ho e0
              have bb := fun j h => bsG9_b (mu := mu) (r := r) (p := x) (t := y) j h
              have loop : ∀ (d j : Nat) (w6 : Option Value), j + d = 3 → V X 62 [some (.ref r), some (.int (I32 x)), some (.int (I32 y)), some (.int (I32 (bsG9 r x y mu j).2.1)), some (.int (I32 (bsG9 r x y mu j).2.2)), some (.int (I32 ((j : Int) + 1))), w6] [] S n (bsG9 r x y mu j).1 la 0 0 := by
                intro d
                induction d with
                | zero =>
                  intro j w6 h1
                  have hj : j = 3 := by omega
                  subst hj
                  refine V_iload C dX9_bestSide_62 rfl ?_
                  refine V_iconst C dX9_bestSide_64 ?_
                  refine V_icmp_ge C 114 dX9_bestSide_65 (by decide) (by omega) (by omega) (fun z65 => ?_) (fun z65 => ?_)
                  · refine V_aload_n C dX9_bestSide_114 rfl ?_
                    refine V_iload_n C dX9_bestSide_115 rfl ?_
                    refine V_callVD (nA := 1) C dX9_bestSide_116 (m_tells C.gp hM) gX9_bestSide_X9_tells rfl o9 rfl (by decide +kernel) rfl (by decide) (by decide) (Nat.le_of_ble_eq_true rfl) ⟨by omega, by omega⟩ rfl ?_
                    refine V_ireturn C E dX9_bestSide_119 (by omega) (by omega) ?_
                    exact Dt_rfl
                  · exact absurd z65 (by first | omega | decide)
                | succ d ih =>
                  intro j w6 h1
                  have h9 := fun w => ih (j + 1) w (by omega)
                  have hj := hoj j (by omega)
                  have bj := bb j (by omega)
                  have bw := wr_b (cbE (bsG9 r x y mu j).1 r x y ((j : Int) + 1))
                  rw [bsG9] at h9
                  dsimp only at h9
                  generalize bsG9 r x y mu j = Q at hj bj bw h9
                  refine V_iload C dX9_bestSide_62 rfl ?_
                  refine V_iconst C dX9_bestSide_64 ?_
                  refine V_icmp_ge C 114 dX9_bestSide_65 (by decide) (by omega) (by omega) (fun z4 => ?_) (fun z4 => ?_)
                  · exact absurd z4 (by omega)
                  · refine V_aload_n C dX9_bestSide_68 rfl ?_
                    refine V_iload_n C dX9_bestSide_69 rfl ?_
                    refine V_iload_n C dX9_bestSide_70 rfl ?_
                    refine V_iload C dX9_bestSide_71 rfl ?_
                    refine V_callVD (nA := 3) C dX9_bestSide_73 (m_cellsBy C.gp hM hj.1 (by omega) (by omega) (by omega) hj.2) gX9_bestSide_X9_cellsBy rfl o9 rfl (by decide +kernel) rfl (by decide) (by decide) (Nat.le_of_ble_eq_true rfl) ⟨by omega, by omega⟩ rfl ?_
                    refine V_wr ?_
                    generalize wr (cbE Q.1 r x y ((j : Int) + 1)) = v at bw h9
                    refine V_istore C dX9_bestSide_76 rfl (by decide) ?_
                    refine V_iload C dX9_bestSide_78 rfl ?_
                    refine V_iload C dX9_bestSide_80 rfl ?_
                    refine V_icmp_le C 90 dX9_bestSide_82 (by decide) (by omega) (by omega) (fun z5 => ?_) (fun z5 => ?_)
                    · rw [if_neg (by omega), if_neg (by omega)] at h9
                      refine V_iload_n C dX9_bestSide_90 rfl ?_
                      refine V_istore_n C dX9_bestSide_91 rfl (by decide) ?_
                      refine V_iload C dX9_bestSide_92 rfl ?_
                      refine V_iload C dX9_bestSide_94 rfl ?_
                      refine V_icmp_le C 104 dX9_bestSide_96 (by decide) (by omega) (by omega) (fun z6 => ?_) (fun z6 => ?_)
                      · refine V_iload C dX9_bestSide_104 rfl ?_
                        refine V_istore C dX9_bestSide_106 rfl (by decide) ?_
                        refine V_iinc C dX9_bestSide_108 rfl rfl (by decide) ?_
                        refine V_goto C 62 dX9_bestSide_111 (by decide) ?_
                        exact h9 _
                      · exact absurd z6 (by omega)
                    · rw [if_pos (by omega), if_pos (by omega)] at h9
                      refine V_iload C dX9_bestSide_85 rfl ?_
                      refine V_goto C 91 dX9_bestSide_87 (by decide) ?_
                      refine V_istore_n C dX9_bestSide_91 rfl (by decide) ?_
                      refine V_iload C dX9_bestSide_92 rfl ?_
                      refine V_iload C dX9_bestSide_94 rfl ?_
                      refine V_icmp_le C 104 dX9_bestSide_96 (by decide) (by omega) (by omega) (fun z6 => ?_) (fun z6 => ?_)
                      · exact absurd z6 (by omega)
                      · refine V_iload C dX9_bestSide_99 rfl ?_
                        refine V_goto C 106 dX9_bestSide_101 (by decide) ?_
                        refine V_istore C dX9_bestSide_106 rfl (by decide) ?_
                        refine V_iinc C dX9_bestSide_108 rfl rfl (by decide) ?_
                        refine V_goto C 62 dX9_bestSide_111 (by decide) ?_
                        exact h9 _
              refine V_iconst C dX9_bestSide_48 ?_
              refine V_istore_n C dX9_bestSide_49 rfl (by decide) ?_
              refine V_aload_n C dX9_bestSide_50 rfl ?_
              refine V_iload_n C dX9_bestSide_51 rfl ?_
              refine V_iload_n C dX9_bestSide_52 rfl ?_
              refine V_iconst C dX9_bestSide_53 ?_
              refine V_callVD (nA := 3) C dX9_bestSide_54 (m_cellsBy C.gp hM hW (by omega) (by omega) (by omega) ho0) gX9_bestSide_X9_cellsBy rfl o9 rfl (by decide +kernel) rfl (by decide) (by decide) (Nat.le_of_ble_eq_true rfl) ⟨by omega, by omega⟩ rfl ?_
              refine V_wr ?_
              refine V_istore C dX9_bestSide_57 rfl (by decide) ?_
              refine V_iconst C dX9_bestSide_59 ?_
              refine V_istore C dX9_bestSide_60 rfl (by decide) ?_
              exact loop 3 0 none (by omega)
            · have e0 : bsF9 (trT mu r) (mu (r + 1) 2) x y = 3 := by unfold bsF9; (repeat' split) <;> omega
              rw [e0, if_neg (by decide), if_neg (by decide)] at E
              refine V_aload_n C dX9_bestSide_42 rfl ?_
              refine V_iconst C dX9_bestSide_43 ?_
              refine V_callVD (nA := 1) C dX9_bestSide_44 (m_fails C.gp hM) gX9_bestSide_X9_fails rfl o9 rfl (by decide +kernel) rfl (by decide) (by decide) (Nat.le_of_ble_eq_true rfl) ⟨by omega, by omega⟩ rfl ?_
              refine V_ireturn C E dX9_bestSide_47 (by omega) (by omega) ?_
              exact Dt_rfl
          · have e0 : bsF9 (trT mu r) (mu (r + 1) 2) x y = 2 := by unfold bsF9; (repeat' split) <;> omega
            rw [e0, if_neg (by decide), if_neg (by decide)] at E
            refine V_aload_n C dX9_bestSide_27 rfl ?_
            refine V_iconst C dX9_bestSide_28 ?_
            refine V_callVD (nA := 1) C dX9_bestSide_29 (m_fails C.gp hM) gX9_bestSide_X9_fails rfl o9 rfl (by decide +kernel) rfl (by decide) (by decide) (Nat.le_of_ble_eq_true rfl) ⟨by omega, by omega⟩ rfl ?_
            refine V_ireturn C E dX9_bestSide_32 (by omega) (by omega) ?_
            exact Dt_rfl
        · exact absurd z1 (by decide)
      · rw [inI_0 hc]
        refine V_if_ne C 22 dX9_bestSide_13 (by decide) (by omega) (fun z1 => ?_) (fun z1 => ?_)
        · exact absurd rfl z1
        · exact bad (Or.inr hc)
  · rw [inI_0 hb]
    refine V_if_eq C 16 dX9_bestSide_5 (by decide) (by omega) (fun z0 => ?_) (fun z0 => ?_)
    · exact bad (Or.inl hb)
    · exact absurd rfl z0
end MD
