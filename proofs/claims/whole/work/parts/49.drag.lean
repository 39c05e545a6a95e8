/-! THE REFERENCE: dragging a divider -/
section MD
variable {G : Gx} {l : Launch} {S : Sh} {n : Nat} {mu : Mem} {la : Lam} {r : Nat}
set_option maxRecDepth 20000 in
theorem ggX9_mayDrag_X9_groupOf : GoodIn wsX9_mayDrag wsX9_groupOf := goodIn_r _ [6, 7, 85, 86, 87, 88, 89, 90, 91, 92, 93, 94, 95, 96, 97, 98, 99, 100, 101, 102, 103, 104, 105, 106, 107, 108] (by decide +kernel) (by decide +kernel)
set_option maxRecDepth 20000 in
theorem gX9_mayDrag_X9_groupOf : GoodIn wsX9_mayDrag (wsV RX9 85 RX9 yX9_groupOf wsX9_groupOf) := goodIn_app (goodIn_of _ (by decide +kernel)) ggX9_mayDrag_X9_groupOf
set_option maxRecDepth 20000 in
theorem ggX9_mayDrag_X9_stateOf : GoodIn wsX9_mayDrag wsX9_stateOf := goodIn_r _ [11, 2, 3, 4, 5, 6, 7, 12, 13, 14, 15, 85, 86, 87, 88, 89, 90, 91, 92, 93, 94, 95, 96, 97, 98, 99, 100, 101, 102, 103, 104, 105, 106, 107, 108] (by decide +kernel) (by decide +kernel)
set_option maxRecDepth 20000 in
theorem gX9_mayDrag_X9_stateOf : GoodIn wsX9_mayDrag (wsV RX9 159 RX9 yX9_stateOf wsX9_stateOf) := goodIn_app (goodIn_of _ (by decide +kernel)) ggX9_mayDrag_X9_stateOf
set_option maxRecDepth 20000 in
theorem ggX9_mayDrag_X9_of : GoodIn wsX9_mayDrag wsX9_of := goodIn_r _ [15, 7, 85, 86, 87, 88, 89, 90, 91, 92, 93, 94, 95, 96, 97, 98, 99, 100, 101, 102, 103, 104, 105, 106, 107, 108] (by decide +kernel) (by decide +kernel)
set_option maxRecDepth 20000 in
theorem gX9_mayDrag_X9_of : GoodIn wsX9_mayDrag (wsV RX9 77 RX9 yX9_of wsX9_of) := goodIn_app (goodIn_of _ (by decide +kernel)) ggX9_mayDrag_X9_of
set_option maxRecDepth 20000 in
theorem ggX9_mayDrag_X9_laysAll : GoodIn wsX9_mayDrag wsX9_laysAll := goodIn_r _ [19, 7, 20, 21, 22, 5, 23, 24, 25, 26, 27, 28, 29, 1, 30, 31, 32, 33, 34, 35, 36, 37, 38, 12, 13, 14, 15, 39, 40, 41, 42, 43, 44, 45, 46, 47, 48, 49, 50, 51, 52, 53, 54, 55, 56, 57, 58, 59, 60, 61, 62, 63, 2, 3, 4, 6, 64, 65, 66, 67, 68, 69, 70, 71, 72, 73, 74, 75, 76, 77, 78, 79, 80, 85, 86, 87, 88, 89, 90, 91, 92, 93, 94, 95, 96, 97, 98, 99, 100, 101, 102, 103, 104, 105, 106, 107, 108] (by decide +kernel) (by decide +kernel)
set_option maxRecDepth 20000 in
theorem gX9_mayDrag_X9_laysAll : GoodIn wsX9_mayDrag (wsV RX9 219 RX9 yX9_laysAll wsX9_laysAll) := goodIn_app (goodIn_of _ (by decide +kernel)) ggX9_mayDrag_X9_laysAll
set_option maxRecDepth 20000 in
theorem ggX9_mayDrag_X9_child : GoodIn wsX9_mayDrag wsX9_child := goodIn_r _ [53, 12, 13, 14, 5, 15, 7, 39, 40, 41, 85, 86, 87, 88, 89, 90, 91, 92, 93, 94, 95, 96, 97, 98, 99, 100, 101, 102, 103, 104, 105, 106, 107, 108] (by decide +kernel) (by decide +kernel)
set_option maxRecDepth 20000 in
theorem gX9_mayDrag_X9_child : GoodIn wsX9_mayDrag (wsV RX9 105 RX9 yX9_child wsX9_child) := goodIn_app (goodIn_of _ (by decide +kernel)) ggX9_mayDrag_X9_child
set_option maxRecDepth 20000 in
theorem ggX9_mayDrag_X9_extent : GoodIn wsX9_mayDrag wsX9_extent := goodIn_r _ [84, 28, 29, 12, 13, 14, 5, 15, 7, 85, 86, 87, 88, 89, 90, 91, 92, 93, 94, 95, 96, 97, 98, 99, 100, 101, 102, 103, 104, 105, 106, 107, 108] (by decide +kernel) (by decide +kernel)
set_option maxRecDepth 20000 in
theorem gX9_mayDrag_X9_extent : GoodIn wsX9_mayDrag (wsV RX9 222 RX9 yX9_extent wsX9_extent) := goodIn_app (goodIn_of _ (by decide +kernel)) ggX9_mayDrag_X9_extent
set_option maxRecDepth 20000 in
theorem ggX9_mayDrag_X9_least : GoodIn wsX9_mayDrag wsX9_least := goodIn_r _ [71, 58, 59, 12, 13, 14, 5, 15, 7, 85, 86, 87, 88, 89, 90, 91, 92, 93, 94, 95, 96, 97, 98, 99, 100, 101, 102, 103, 104, 105, 106, 107, 108] (by decide +kernel) (by decide +kernel)
set_option maxRecDepth 20000 in
theorem gX9_mayDrag_X9_least : GoodIn wsX9_mayDrag (wsV RX9 108 RX9 yX9_least wsX9_least) := goodIn_app (goodIn_of _ (by decide +kernel)) ggX9_mayDrag_X9_least
theorem dX9_mayDrag_0 : decode cX9_mayDrag 0 = .ok (.aload_n 0, 1) := by decide +kernel
theorem dX9_mayDrag_1 : decode cX9_mayDrag 1 = .ok (.iload_n 1, 1) := by decide +kernel
theorem dX9_mayDrag_2 : decode cX9_mayDrag 2 = .ok (.invokevirtual 85, 3) := by decide +kernel
theorem dX9_mayDrag_5 : decode cX9_mayDrag 5 = .ok (.istore_n 3, 1) := by decide +kernel
theorem dX9_mayDrag_6 : decode cX9_mayDrag 6 = .ok (.aload_n 0, 1) := by decide +kernel
theorem dX9_mayDrag_7 : decode cX9_mayDrag 7 = .ok (.iload_n 1, 1) := by decide +kernel
theorem dX9_mayDrag_8 : decode cX9_mayDrag 8 = .ok (.invokevirtual 159, 3) := by decide +kernel
theorem dX9_mayDrag_11 : decode cX9_mayDrag 11 = .ok (.iconst 1, 1) := by decide +kernel
theorem dX9_mayDrag_12 : decode cX9_mayDrag 12 = .ok (.if_icmp .ne 13, 3) := by decide +kernel
theorem dX9_mayDrag_15 : decode cX9_mayDrag 15 = .ok (.aload_n 0, 1) := by decide +kernel
theorem dX9_mayDrag_16 : decode cX9_mayDrag 16 = .ok (.iload_n 3, 1) := by decide +kernel
theorem dX9_mayDrag_17 : decode cX9_mayDrag 17 = .ok (.iconst 1, 1) := by decide +kernel
theorem dX9_mayDrag_18 : decode cX9_mayDrag 18 = .ok (.invokevirtual 77, 3) := by decide +kernel
theorem dX9_mayDrag_21 : decode cX9_mayDrag 21 = .ok (.iconst (-1), 1) := by decide +kernel
theorem dX9_mayDrag_22 : decode cX9_mayDrag 22 = .ok (.if_icmp .ne 5, 3) := by decide +kernel
theorem dX9_mayDrag_25 : decode cX9_mayDrag 25 = .ok (.iconst 0, 1) := by decide +kernel
theorem dX9_mayDrag_26 : decode cX9_mayDrag 26 = .ok (.ireturn, 1) := by decide +kernel
theorem dX9_mayDrag_27 : decode cX9_mayDrag 27 = .ok (.aload_n 0, 1) := by decide +kernel
theorem dX9_mayDrag_28 : decode cX9_mayDrag 28 = .ok (.invokevirtual 219, 3) := by decide +kernel
theorem dX9_mayDrag_31 : decode cX9_mayDrag 31 = .ok (.aload_n 0, 1) := by decide +kernel
theorem dX9_mayDrag_32 : decode cX9_mayDrag 32 = .ok (.iload_n 3, 1) := by decide +kernel
theorem dX9_mayDrag_33 : decode cX9_mayDrag 33 = .ok (.iconst 1, 1) := by decide +kernel
theorem dX9_mayDrag_34 : decode cX9_mayDrag 34 = .ok (.invokevirtual 77, 3) := by decide +kernel
theorem dX9_mayDrag_37 : decode cX9_mayDrag 37 = .ok (.istore 4, 2) := by decide +kernel
theorem dX9_mayDrag_39 : decode cX9_mayDrag 39 = .ok (.aload_n 0, 1) := by decide +kernel
theorem dX9_mayDrag_40 : decode cX9_mayDrag 40 = .ok (.iload 4, 2) := by decide +kernel
theorem dX9_mayDrag_42 : decode cX9_mayDrag 42 = .ok (.aload_n 0, 1) := by decide +kernel
theorem dX9_mayDrag_43 : decode cX9_mayDrag 43 = .ok (.iload_n 3, 1) := by decide +kernel
theorem dX9_mayDrag_44 : decode cX9_mayDrag 44 = .ok (.iconst 2, 1) := by decide +kernel
theorem dX9_mayDrag_45 : decode cX9_mayDrag 45 = .ok (.invokevirtual 77, 3) := by decide +kernel
theorem dX9_mayDrag_48 : decode cX9_mayDrag 48 = .ok (.iconst 1, 1) := by decide +kernel
theorem dX9_mayDrag_49 : decode cX9_mayDrag 49 = .ok (.iadd, 1) := by decide +kernel
theorem dX9_mayDrag_50 : decode cX9_mayDrag 50 = .ok (.invokevirtual 105, 3) := by decide +kernel
theorem dX9_mayDrag_53 : decode cX9_mayDrag 53 = .ok (.istore 5, 2) := by decide +kernel
theorem dX9_mayDrag_55 : decode cX9_mayDrag 55 = .ok (.iload 5, 2) := by decide +kernel
theorem dX9_mayDrag_57 : decode cX9_mayDrag 57 = .ok (.iconst (-1), 1) := by decide +kernel
theorem dX9_mayDrag_58 : decode cX9_mayDrag 58 = .ok (.if_icmp .eq 14, 3) := by decide +kernel
theorem dX9_mayDrag_61 : decode cX9_mayDrag 61 = .ok (.aload_n 0, 1) := by decide +kernel
theorem dX9_mayDrag_62 : decode cX9_mayDrag 62 = .ok (.getfield 46, 3) := by decide +kernel
theorem dX9_mayDrag_65 : decode cX9_mayDrag 65 = .ok (.iload 4, 2) := by decide +kernel
theorem dX9_mayDrag_67 : decode cX9_mayDrag 67 = .ok (.iaload, 1) := by decide +kernel
theorem dX9_mayDrag_68 : decode cX9_mayDrag 68 = .ok (.iconst 1, 1) := by decide +kernel
theorem dX9_mayDrag_69 : decode cX9_mayDrag 69 = .ok (.if_icmp .ne 5, 3) := by decide +kernel
theorem dX9_mayDrag_72 : decode cX9_mayDrag 72 = .ok (.iconst 0, 1) := by decide +kernel
theorem dX9_mayDrag_73 : decode cX9_mayDrag 73 = .ok (.ireturn, 1) := by decide +kernel
theorem dX9_mayDrag_74 : decode cX9_mayDrag 74 = .ok (.aload_n 0, 1) := by decide +kernel
theorem dX9_mayDrag_75 : decode cX9_mayDrag 75 = .ok (.iload 4, 2) := by decide +kernel
theorem dX9_mayDrag_77 : decode cX9_mayDrag 77 = .ok (.iload_n 3, 1) := by decide +kernel
theorem dX9_mayDrag_78 : decode cX9_mayDrag 78 = .ok (.invokevirtual 222, 3) := by decide +kernel
theorem dX9_mayDrag_81 : decode cX9_mayDrag 81 = .ok (.iload_n 2, 1) := by decide +kernel
theorem dX9_mayDrag_82 : decode cX9_mayDrag 82 = .ok (.iadd, 1) := by decide +kernel
theorem dX9_mayDrag_83 : decode cX9_mayDrag 83 = .ok (.aload_n 0, 1) := by decide +kernel
theorem dX9_mayDrag_84 : decode cX9_mayDrag 84 = .ok (.iload 4, 2) := by decide +kernel
theorem dX9_mayDrag_86 : decode cX9_mayDrag 86 = .ok (.iload_n 3, 1) := by decide +kernel
theorem dX9_mayDrag_87 : decode cX9_mayDrag 87 = .ok (.invokevirtual 108, 3) := by decide +kernel
theorem dX9_mayDrag_90 : decode cX9_mayDrag 90 = .ok (.if_icmp .lt 28, 3) := by decide +kernel
theorem dX9_mayDrag_93 : decode cX9_mayDrag 93 = .ok (.aload_n 0, 1) := by decide +kernel
theorem dX9_mayDrag_94 : decode cX9_mayDrag 94 = .ok (.iload 4, 2) := by decide +kernel
theorem dX9_mayDrag_96 : decode cX9_mayDrag 96 = .ok (.iload 5, 2) := by decide +kernel
theorem dX9_mayDrag_98 : decode cX9_mayDrag 98 = .ok (.invokevirtual 222, 3) := by decide +kernel
theorem dX9_mayDrag_101 : decode cX9_mayDrag 101 = .ok (.iload_n 2, 1) := by decide +kernel
theorem dX9_mayDrag_102 : decode cX9_mayDrag 102 = .ok (.isub, 1) := by decide +kernel
theorem dX9_mayDrag_103 : decode cX9_mayDrag 103 = .ok (.aload_n 0, 1) := by decide +kernel
theorem dX9_mayDrag_104 : decode cX9_mayDrag 104 = .ok (.iload 4, 2) := by decide +kernel
theorem dX9_mayDrag_106 : decode cX9_mayDrag 106 = .ok (.iload 5, 2) := by decide +kernel
theorem dX9_mayDrag_108 : decode cX9_mayDrag 108 = .ok (.invokevirtual 108, 3) := by decide +kernel
theorem dX9_mayDrag_111 : decode cX9_mayDrag 111 = .ok (.if_icmp .lt 7, 3) := by decide +kernel
theorem dX9_mayDrag_114 : decode cX9_mayDrag 114 = .ok (.iconst 1, 1) := by decide +kernel
theorem dX9_mayDrag_115 : decode cX9_mayDrag 115 = .ok (.goto 4, 3) := by decide +kernel
theorem dX9_mayDrag_118 : decode cX9_mayDrag 118 = .ok (.iconst 0, 1) := by decide +kernel
theorem dX9_mayDrag_119 : decode cX9_mayDrag 119 = .ok (.ireturn, 1) := by decide +kernel
theorem hin_X9_mayDrag_X9 : ∀ w ∈ wsX90, w ∈ wsX9_mayDrag := by decide +kernel
theorem lk_X9_mayDrag_46 : Cond.fieldLink RX9 46 RX9 "tight" "[I" ∈ wsX9_mayDrag := by decide +kernel
def myN (T : Mem) (p : Int) : Int := chT T (T 1 (T 9 p)) (T 2 (T 9 p) + 1)
def myV (T Z : Mem) (p d : Int) : Int :=
  if myN T p = -1 ∨ Z 13 (T 1 (T 9 p)) = 1 then 0 else
    if ltF T Z (T 1 (T 9 p)) (T 9 p) ≤ exF T Z (T 1 (T 9 p)) (T 9 p) + d ∧ ltF T Z (T 1 (T 9 p)) (myN T p) ≤ exF T Z (T 1 (T 9 p)) (myN T p) - d then 1 else 0
def myB (T Z : Mem) (p : Int) : Prop := (-1000000 ≤ exF T Z (T 1 (T 9 p)) (T 9 p) ∧ exF T Z (T 1 (T 9 p)) (T 9 p) ≤ 1000000) ∧ (myN T p ≠ -1 → -1000000 ≤ exF T Z (T 1 (T 9 p)) (myN T p) ∧ exF T Z (T 1 (T 9 p)) (myN T p) ≤ 1000000)
def myG (mu : Mem) (r : Nat) (p : Int) : Prop := sxT (trT mu r) p = 1 ∧ trT mu r 1 (trT mu r 9 p) ≠ -1
theorem m_mayDrag (hG : GP G) (hM : MoS S r) (hW : MWo mu r) {x d : Int} (hx : 0 ≤ x ∧ x < 16) (hd : -400 ≤ d ∧ d ≤ 400) (hy : myG mu r x → LyOk mu r (trT mu r) (zOf mu r) (mu (r + 1) 0) (mu (r + 1) 1)) (hb : myG mu r x → myB (trT mu r) (zW mu r) x) (hRZ : myG mu r x → R32Z (zW mu r)) {v : Int} {m : Mem} (hv : myG mu r x → v = myV (trT mu r) (zW mu r) x d) (hv0 : ¬ myG mu r x → v = 0) (hm : myG mu r x → m = lyW mu r) (hm0 : ¬ myG mu r x → m = mu) : Ct G l yX9_mayDrag wsX9_mayDrag 7 0 0 [.ref r, .int (I32 x), .int (I32 d)] S n mu la (Dt (some (.int (I32 v))) S n m la) := by
  have o9 := hM.1
  have hB := hW.2.1
  have b9 := hB.g hx
  have sb := sxT_b (trT mu r) x
  refine Ct.ofV (cc := cX9_mayDrag) (nL := 6) (ret := (some .boolean)) [some (.ref r), some (.int (I32 x)), some (.int (I32 d)), none, none, none] hG (by decide) rfl (Nat.le_of_ble_eq_true rfl) rfl ?_
  rintro X rfl rfl C hcl hsl E
  have g1 := m_groupOf (l := xL X) (n := n) (la := la) (mu := mu) (T := trT mu r) C.gp hM hx
  rw [pt_self] at g1
  refine V_aload_n C dX9_mayDrag_0 rfl ?_
  refine V_iload_n C dX9_mayDrag_1 rfl ?_
  refine V_callVD (nA := 1) C dX9_mayDrag_2 g1 gX9_mayDrag_X9_groupOf rfl o9 rfl (by decide +kernel) rfl (by decide) (by decide) (Nat.le_of_ble_eq_true rfl) ⟨by omega, by omega⟩ rfl ?_
  have s1 := m_stateOf (l := xL X) (n := n) (la := la) (mu := mu) (T := trT mu r) C.gp hM hB (by decide) hx
  rw [pt_self] at s1
  refine V_istore_n C dX9_mayDrag_5 rfl (by decide) ?_
  refine V_aload_n C dX9_mayDrag_6 rfl ?_
  refine V_iload_n C dX9_mayDrag_7 rfl ?_
  refine V_callVD (nA := 1) C dX9_mayDrag_8 s1 gX9_mayDrag_X9_stateOf rfl o9 rfl (by decide +kernel) rfl (by decide) (by decide) (Nat.le_of_ble_eq_true rfl) ⟨by omega, by omega⟩ rfl ?_
  refine V_iconst C dX9_mayDrag_11 ?_
  refine V_icmp_ne C 25 dX9_mayDrag_12 (by decide) (by omega) (by omega) (fun z0 => ?_) (fun z0 => ?_)
  · have hn : ¬ myG mu r x := fun q => z0 q.1
    rw [hv0 hn, hm0 hn] at E
    refine V_iconst C dX9_mayDrag_25 ?_
    refine V_zreturn C E (by first | exact Or.inl rfl | exact Or.inr rfl | simp) dX9_mayDrag_26 (by omega) (by omega) ?_
    exact Dt_rfl
  · have z0 : sxT (trT mu r) x = 1 := by omega
    have g0 : trT mu r 9 x ≠ -1 := sxT_g (by omega)
    have gb : 0 ≤ trT mu r 9 x ∧ trT mu r 9 x < 32 := by omega
    have b1 := hB.p gb
    have b2 := hB.n 2 (by decide) gb
    have f1 := m_of (l := xL X) (n := n) (la := la) (mu := mu) (T := trT mu r) C.gp hM gb 1 (by decide) rfl
    rw [pt_self] at f1
    refine V_aload_n C dX9_mayDrag_15 rfl ?_
    refine V_iload_n C dX9_mayDrag_16 rfl ?_
    refine V_iconst C dX9_mayDrag_17 ?_
    refine V_callVD (nA := 2) C dX9_mayDrag_18 f1 gX9_mayDrag_X9_of rfl o9 rfl (by decide +kernel) rfl (by decide) (by decide) (Nat.le_of_ble_eq_true rfl) ⟨by omega, by omega⟩ rfl ?_
    refine V_iconst C dX9_mayDrag_21 ?_
    refine V_icmp_ne C 27 dX9_mayDrag_22 (by decide) (by omega) (by omega) (fun z1 => ?_) (fun z1 => ?_)
    · have hg : myG mu r x := ⟨z0, z1⟩
      have hs : 0 ≤ trT mu r 1 (trT mu r 9 x) ∧ trT mu r 1 (trT mu r 9 x) < 32 := by omega
      obtain ⟨h1, h2⟩ := hb hg
      have hZ := hRZ hg
      rw [hv hg, hm hg] at E
      refine V_aload_n C dX9_mayDrag_27 rfl ?_
      refine V_callVD (nA := 0) C dX9_mayDrag_28 (a_laysAll C.gp hM hW (hy hg)) gX9_mayDrag_X9_laysAll rfl o9 rfl (by decide +kernel) rfl (by decide) (by decide) (Nat.le_of_ble_eq_true rfl) ⟨by omega, by omega⟩ rfl ?_
      rw [show lyW mu r = lyM mu r (trT mu r) (qW mu r) (zW mu r) from rfl] at E ⊢
      generalize zW mu r = Z at *
      generalize trT mu r = T at *
      generalize qW mu r = q at *
      have cb := chT_b T (T 1 (T 9 x)) (T 2 (T 9 x) + 1)
      have en : myN T x = chT T (T 1 (T 9 x)) (T 2 (T 9 x) + 1) := rfl
      refine V_aload_n C dX9_mayDrag_31 rfl ?_
      refine V_iload_n C dX9_mayDrag_32 rfl ?_
      refine V_iconst C dX9_mayDrag_33 ?_
      refine V_callVD (nA := 2) C dX9_mayDrag_34 (m_of C.gp hM gb 1 (by decide) rfl) gX9_mayDrag_X9_of rfl o9 rfl (by decide +kernel) rfl (by decide) (by decide) (Nat.le_of_ble_eq_true rfl) ⟨by omega, by omega⟩ rfl ?_
      refine V_istore C dX9_mayDrag_37 rfl (by decide) ?_
      refine V_aload_n C dX9_mayDrag_39 rfl ?_
      refine V_iload C dX9_mayDrag_40 rfl ?_
      refine V_aload_n C dX9_mayDrag_42 rfl ?_
      refine V_iload_n C dX9_mayDrag_43 rfl ?_
      refine V_iconst C dX9_mayDrag_44 ?_
      refine V_callVD (nA := 2) C dX9_mayDrag_45 (m_of C.gp hM gb 2 (by decide) rfl) gX9_mayDrag_X9_of rfl o9 rfl (by decide +kernel) rfl (by decide) (by decide) (Nat.le_of_ble_eq_true rfl) ⟨by omega, by omega⟩ rfl ?_
      refine V_iconst C dX9_mayDrag_48 ?_
      refine V_iadd C dX9_mayDrag_49 ?_
      refine V_callVD (nA := 2) C dX9_mayDrag_50 (m_child C.gp hM hB (by decide) (by omega) (by omega)) gX9_mayDrag_X9_child rfl o9 rfl (by decide +kernel) rfl (by decide) (by decide) (Nat.le_of_ble_eq_true rfl) ⟨by omega, by omega⟩ rfl ?_
      rw [← en] at cb ⊢
      refine V_istore C dX9_mayDrag_53 rfl (by decide) ?_
      refine V_iload C dX9_mayDrag_55 rfl ?_
      refine V_iconst C dX9_mayDrag_57 ?_
      refine V_icmp_eq C 72 dX9_mayDrag_58 (by decide) (by omega) (by omega) (fun z2 => ?_) (fun z2 => ?_)
      · have e0 : myV T Z x d = 0 := by unfold myV; rw [if_pos (Or.inl z2)]
        rw [e0] at E
        refine V_iconst C dX9_mayDrag_72 ?_
        refine V_zreturn C E (by first | exact Or.inl rfl | exact Or.inr rfl | simp) dX9_mayDrag_73 (by omega) (by omega) ?_
        exact Dt_rfl
      · obtain ⟨h3, h4⟩ := h2 z2
        have t13 := hZ 13 (T 1 (T 9 x)) (by decide)
        refine V_aload_n C dX9_mayDrag_61 rfl ?_
        refine V_getR C 16 dX9_mayDrag_62 o9 rfl hin_X9_mayDrag_X9 (by decide) lk_X9_mayDrag_46 rfl rfl ?_
        refine V_iload C dX9_mayDrag_65 rfl ?_
        refine V_ialdJ C dX9_mayDrag_67 (hM.k ⟨by decide,by decide⟩) (by first | assumption | decide) (by omega) (zM_k (by decide)) ?_
        refine V_iconst C dX9_mayDrag_68 ?_
        refine V_icmp_ne C 74 dX9_mayDrag_69 (by decide) (by omega) (by omega) (fun z3 => ?_) (fun z3 => ?_)
        · have lt1 : -2147483648 ≤ ltF T Z (T 1 (T 9 x)) (T 9 x) ∧ ltF T Z (T 1 (T 9 x)) (T 9 x) ≤ 2147483647 := by unfold ltF; split <;> exact hZ _ _ (by decide)
          have lt2 : -2147483648 ≤ ltF T Z (T 1 (T 9 x)) (myN T x) ∧ ltF T Z (T 1 (T 9 x)) (myN T x) ≤ 2147483647 := by unfold ltF; split <;> exact hZ _ _ (by decide)
          have hnb : 0 ≤ myN T x ∧ myN T x < 32 := by omega
          refine V_aload_n C dX9_mayDrag_74 rfl ?_
          refine V_iload C dX9_mayDrag_75 rfl ?_
          refine V_iload_n C dX9_mayDrag_77 rfl ?_
          refine V_callVD (nA := 2) C dX9_mayDrag_78 (m_extent C.gp hM hB (by decide) hs gb) gX9_mayDrag_X9_extent rfl o9 rfl (by decide +kernel) rfl (by decide) (by decide) (Nat.le_of_ble_eq_true rfl) ⟨by omega, by omega⟩ rfl ?_
          refine V_iload_n C dX9_mayDrag_81 rfl ?_
          refine V_iadd C dX9_mayDrag_82 ?_
          refine V_aload_n C dX9_mayDrag_83 rfl ?_
          refine V_iload C dX9_mayDrag_84 rfl ?_
          refine V_iload_n C dX9_mayDrag_86 rfl ?_
          refine V_callVD (nA := 2) C dX9_mayDrag_87 (m_least C.gp hM hB (by decide) hs gb) gX9_mayDrag_X9_least rfl o9 rfl (by decide +kernel) rfl (by decide) (by decide) (Nat.le_of_ble_eq_true rfl) ⟨by omega, by omega⟩ rfl ?_
          refine V_icmp_lt C 118 dX9_mayDrag_90 (by decide) (by omega) (by omega) (fun z4 => ?_) (fun z4 => ?_)
          · have e0 : myV T Z x d = 0 := by unfold myV; rw [if_neg (by omega), if_neg (by omega)]
            rw [e0] at E
            refine V_iconst C dX9_mayDrag_118 ?_
            refine V_zreturn C E (by first | exact Or.inl rfl | exact Or.inr rfl | simp) dX9_mayDrag_119 (by omega) (by omega) ?_
            exact Dt_rfl
          · refine V_aload_n C dX9_mayDrag_93 rfl ?_
            refine V_iload C dX9_mayDrag_94 rfl ?_
            refine V_iload C dX9_mayDrag_96 rfl ?_
            refine V_callVD (nA := 2) C dX9_mayDrag_98 (m_extent C.gp hM hB (by decide) hs hnb) gX9_mayDrag_X9_extent rfl o9 rfl (by decide +kernel) rfl (by decide) (by decide) (Nat.le_of_ble_eq_true rfl) ⟨by omega, by omega⟩ rfl ?_
            refine V_iload_n C dX9_mayDrag_101 rfl ?_
            refine V_isub C dX9_mayDrag_102 ?_
            refine V_aload_n C dX9_mayDrag_103 rfl ?_
            refine V_iload C dX9_mayDrag_104 rfl ?_
            refine V_iload C dX9_mayDrag_106 rfl ?_
            refine V_callVD (nA := 2) C dX9_mayDrag_108 (m_least C.gp hM hB (by decide) hs hnb) gX9_mayDrag_X9_least rfl o9 rfl (by decide +kernel) rfl (by decide) (by decide) (Nat.le_of_ble_eq_true rfl) ⟨by omega, by omega⟩ rfl ?_
            refine V_icmp_lt C 118 dX9_mayDrag_111 (by decide) (by omega) (by omega) (fun z5 => ?_) (fun z5 => ?_)
            · have e0 : myV T Z x d = 0 := by unfold myV; rw [if_neg (by omega), if_neg (by omega)]
              rw [e0] at E
              refine V_iconst C dX9_mayDrag_118 ?_
              refine V_zreturn C E (by first | exact Or.inl rfl | exact Or.inr rfl | simp) dX9_mayDrag_119 (by omega) (by omega) ?_
              exact Dt_rfl
            · have e0 : myV T Z x d = 1 := by unfold myV; rw [if_neg (by omega), if_pos (by omega)]
              rw [e0] at E
              refine V_iconst C dX9_mayDrag_114 ?_
              refine V_goto C 119 dX9_mayDrag_115 (by decide) ?_
              refine V_zreturn C E (by first | exact Or.inl rfl | exact Or.inr rfl | simp) dX9_mayDrag_119 (by omega) (by omega) ?_
              exact Dt_rfl
        · have z3 : Z 13 (T 1 (T 9 x)) = 1 := by omega
          have e0 : myV T Z x d = 0 := by unfold myV; rw [if_pos (Or.inr z3)]
          rw [e0] at E
          refine V_iconst C dX9_mayDrag_72 ?_
          refine V_zreturn C E (by first | exact Or.inl rfl | exact Or.inr rfl | simp) dX9_mayDrag_73 (by omega) (by omega) ?_
          exact Dt_rfl
    · have z1 : trT mu r 1 (trT mu r 9 x) = -1 := by omega
      have hn : ¬ myG mu r x := fun q => q.2 z1
      rw [hv0 hn, hm0 hn] at E
      refine V_iconst C dX9_mayDrag_25 ?_
      refine V_zreturn C E (by first | exact Or.inl rfl | exact Or.inr rfl | simp) dX9_mayDrag_26 (by omega) (by omega) ?_
      exact Dt_rfl
set_option maxRecDepth 20000 in
theorem ggX9_drag_X9_isPane : GoodIn wsX9_drag wsX9_isPane := goodIn_r _ [5, 6, 7, 8, 4, 9, 120, 121, 122, 123, 124, 125, 126, 127, 128, 129, 130, 131, 132, 133, 134, 135, 136, 137, 138, 139, 140, 141, 142, 143] (by decide +kernel) (by decide +kernel)
set_option maxRecDepth 20000 in
theorem gX9_drag_X9_isPane : GoodIn wsX9_drag (wsV RX9 156 RX9 yX9_isPane wsX9_isPane) := goodIn_app (goodIn_of _ (by decide +kernel)) ggX9_drag_X9_isPane
set_option maxRecDepth 20000 in
theorem ggX9_drag_X9_fails : GoodIn wsX9_drag wsX9_fails := goodIn_r _ [13, 14, 120, 121, 122, 123, 124, 125, 126, 127, 128, 129, 130, 131, 132, 133, 134, 135, 136, 137, 138, 139, 140, 141, 142, 143] (by decide +kernel) (by decide +kernel)
set_option maxRecDepth 20000 in
theorem gX9_drag_X9_fails : GoodIn wsX9_drag (wsV RX9 147 RX9 yX9_fails wsX9_fails) := goodIn_app (goodIn_of _ (by decide +kernel)) ggX9_drag_X9_fails
set_option maxRecDepth 20000 in
theorem ggX9_drag_X9_in : GoodIn wsX9_drag wsX9_in := goodIn_r _ [9] (by decide +kernel) (by decide +kernel)
set_option maxRecDepth 20000 in
theorem gX9_drag_X9_in : GoodIn wsX9_drag (va_wsS RX9 73 yX9_in wsX9_in) := goodIn_app (goodIn_of _ (by decide +kernel)) ggX9_drag_X9_in
set_option maxRecDepth 20000 in
theorem ggX9_drag_X9_mayDrag : GoodIn wsX9_drag wsX9_mayDrag := goodIn_s _ [(18, 5), (4, 1), (23, 1), (6, 1), (24, 31), (7, 3), (55, 43), (120, 24)] (by rfl) (by decide +kernel)
set_option maxRecDepth 20000 in
theorem gX9_drag_X9_mayDrag : GoodIn wsX9_drag (wsV RX9 225 RX9 yX9_mayDrag wsX9_mayDrag) := goodIn_app (goodIn_of _ (by decide +kernel)) ggX9_drag_X9_mayDrag
set_option maxRecDepth 20000 in
theorem ggX9_drag_X9_hold : GoodIn wsX9_drag wsX9_hold := goodIn_r _ [101, 102, 6, 103, 104, 4, 105, 120, 121, 122, 123, 124, 125, 126, 127, 128, 129, 130, 131, 132, 133, 134, 135, 136, 137, 138, 139, 140, 141, 142, 143] (by decide +kernel) (by decide +kernel)
set_option maxRecDepth 20000 in
theorem gX9_drag_X9_hold : GoodIn wsX9_drag (wsV RX9 194 RX9 yX9_hold wsX9_hold) := goodIn_app (goodIn_of _ (by decide +kernel)) ggX9_drag_X9_hold
set_option maxRecDepth 20000 in
theorem ggX9_drag_X9_groupOf : GoodIn wsX9_drag wsX9_groupOf := goodIn_r _ [23, 6, 120, 121, 122, 123, 124, 125, 126, 127, 128, 129, 130, 131, 132, 133, 134, 135, 136, 137, 138, 139, 140, 141, 142, 143] (by decide +kernel) (by decide +kernel)
set_option maxRecDepth 20000 in
theorem gX9_drag_X9_groupOf : GoodIn wsX9_drag (wsV RX9 85 RX9 yX9_groupOf wsX9_groupOf) := goodIn_app (goodIn_of _ (by decide +kernel)) ggX9_drag_X9_groupOf
set_option maxRecDepth 20000 in
theorem ggX9_drag_X9_of : GoodIn wsX9_drag wsX9_of := goodIn_r _ [31, 6, 120, 121, 122, 123, 124, 125, 126, 127, 128, 129, 130, 131, 132, 133, 134, 135, 136, 137, 138, 139, 140, 141, 142, 143] (by decide +kernel) (by decide +kernel)
set_option maxRecDepth 20000 in
theorem gX9_drag_X9_of : GoodIn wsX9_drag (wsV RX9 77 RX9 yX9_of wsX9_of) := goodIn_app (goodIn_of _ (by decide +kernel)) ggX9_drag_X9_of
set_option maxRecDepth 20000 in
theorem ggX9_drag_X9_children : GoodIn wsX9_drag wsX9_children := goodIn_r _ [62, 28, 29, 30, 4, 31, 6, 7, 8, 9, 120, 121, 122, 123, 124, 125, 126, 127, 128, 129, 130, 131, 132, 133, 134, 135, 136, 137, 138, 139, 140, 141, 142, 143] (by decide +kernel) (by decide +kernel)
set_option maxRecDepth 20000 in
theorem gX9_drag_X9_children : GoodIn wsX9_drag (wsV RX9 102 RX9 yX9_children wsX9_children) := goodIn_app (goodIn_of _ (by decide +kernel)) ggX9_drag_X9_children
set_option maxRecDepth 20000 in
theorem ggX9_drag_X9_child : GoodIn wsX9_drag wsX9_child := goodIn_r _ [66, 28, 29, 30, 4, 31, 6, 7, 8, 9, 120, 121, 122, 123, 124, 125, 126, 127, 128, 129, 130, 131, 132, 133, 134, 135, 136, 137, 138, 139, 140, 141, 142, 143] (by decide +kernel) (by decide +kernel)
set_option maxRecDepth 20000 in
theorem gX9_drag_X9_child : GoodIn wsX9_drag (wsV RX9 105 RX9 yX9_child wsX9_child) := goodIn_app (goodIn_of _ (by decide +kernel)) ggX9_drag_X9_child
set_option maxRecDepth 20000 in
theorem ggX9_drag_X9_extent : GoodIn wsX9_drag wsX9_extent := goodIn_r _ [97, 44, 45, 28, 29, 30, 4, 31, 6, 120, 121, 122, 123, 124, 125, 126, 127, 128, 129, 130, 131, 132, 133, 134, 135, 136, 137, 138, 139, 140, 141, 142, 143] (by decide +kernel) (by decide +kernel)
set_option maxRecDepth 20000 in
theorem gX9_drag_X9_extent : GoodIn wsX9_drag (wsV RX9 222 RX9 yX9_extent wsX9_extent) := goodIn_app (goodIn_of _ (by decide +kernel)) ggX9_drag_X9_extent
set_option maxRecDepth 20000 in
theorem ggX9_drag_X9_puts : GoodIn wsX9_drag wsX9_puts := goodIn_r _ [109, 6, 120, 121, 122, 123, 124, 125, 126, 127, 128, 129, 130, 131, 132, 133, 134, 135, 136, 137, 138, 139, 140, 141, 142, 143] (by decide +kernel) (by decide +kernel)
set_option maxRecDepth 20000 in
theorem gX9_drag_X9_puts : GoodIn wsX9_drag (wsV RX9 81 RX9 yX9_puts wsX9_puts) := goodIn_app (goodIn_of _ (by decide +kernel)) ggX9_drag_X9_puts
set_option maxRecDepth 20000 in
theorem ggX9_drag_X9_laysAll : GoodIn wsX9_drag wsX9_laysAll := goodIn_r _ [35, 6, 36, 37, 38, 4, 39, 40, 41, 42, 43, 44, 45, 19, 46, 47, 48, 49, 50, 51, 52, 53, 54, 28, 29, 30, 31, 7, 8, 9, 55, 56, 57, 58, 59, 60, 61, 62, 63, 64, 65, 66, 67, 68, 69, 70, 71, 72, 73, 74, 75, 76, 20, 21, 22, 23, 77, 78, 79, 80, 81, 82, 83, 84, 85, 86, 87, 88, 89, 90, 91, 92, 93, 120, 121, 122, 123, 124, 125, 126, 127, 128, 129, 130, 131, 132, 133, 134, 135, 136, 137, 138, 139, 140, 141, 142, 143] (by decide +kernel) (by decide +kernel)
set_option maxRecDepth 20000 in
theorem gX9_drag_X9_laysAll : GoodIn wsX9_drag (wsV RX9 219 RX9 yX9_laysAll wsX9_laysAll) := goodIn_app (goodIn_of _ (by decide +kernel)) ggX9_drag_X9_laysAll
set_option maxRecDepth 20000 in
theorem ggX9_drag_X9_ends : GoodIn wsX9_drag wsX9_ends := goodIn_r _ [113, 114, 115, 102, 116, 117, 118, 4, 119, 14, 120, 121, 122, 123, 124, 125, 126, 127, 128, 129, 130, 131, 132, 133, 134, 135, 136, 137, 138, 139, 140, 141, 142, 143] (by decide +kernel) (by decide +kernel)
set_option maxRecDepth 20000 in
theorem gX9_drag_X9_ends : GoodIn wsX9_drag (wsV RX9 153 RX9 yX9_ends wsX9_ends) := goodIn_app (goodIn_of _ (by decide +kernel)) ggX9_drag_X9_ends
theorem dX9_drag_0 : decode cX9_drag 0 = .ok (.aload_n 0, 1) := by decide +kernel
theorem dX9_drag_1 : decode cX9_drag 1 = .ok (.iload_n 1, 1) := by decide +kernel
theorem dX9_drag_2 : decode cX9_drag 2 = .ok (.invokevirtual 156, 3) := by decide +kernel
theorem dX9_drag_5 : decode cX9_drag 5 = .ok (.ifCond .ne 9, 3) := by decide +kernel
theorem dX9_drag_8 : decode cX9_drag 8 = .ok (.aload_n 0, 1) := by decide +kernel
theorem dX9_drag_9 : decode cX9_drag 9 = .ok (.iconst 1, 1) := by decide +kernel
theorem dX9_drag_10 : decode cX9_drag 10 = .ok (.invokevirtual 147, 3) := by decide +kernel
theorem dX9_drag_13 : decode cX9_drag 13 = .ok (.ireturn, 1) := by decide +kernel
theorem dX9_drag_14 : decode cX9_drag 14 = .ok (.iload_n 2, 1) := by decide +kernel
theorem dX9_drag_15 : decode cX9_drag 15 = .ok (.sipush (-400), 3) := by decide +kernel
theorem dX9_drag_18 : decode cX9_drag 18 = .ok (.sipush 400, 3) := by decide +kernel
theorem dX9_drag_21 : decode cX9_drag 21 = .ok (.invokestatic 73, 3) := by decide +kernel
theorem dX9_drag_24 : decode cX9_drag 24 = .ok (.ifCond .ne 9, 3) := by decide +kernel
theorem dX9_drag_27 : decode cX9_drag 27 = .ok (.aload_n 0, 1) := by decide +kernel
theorem dX9_drag_28 : decode cX9_drag 28 = .ok (.iconst 2, 1) := by decide +kernel
theorem dX9_drag_29 : decode cX9_drag 29 = .ok (.invokevirtual 147, 3) := by decide +kernel
theorem dX9_drag_32 : decode cX9_drag 32 = .ok (.ireturn, 1) := by decide +kernel
theorem dX9_drag_33 : decode cX9_drag 33 = .ok (.aload_n 0, 1) := by decide +kernel
theorem dX9_drag_34 : decode cX9_drag 34 = .ok (.iload_n 1, 1) := by decide +kernel
theorem dX9_drag_35 : decode cX9_drag 35 = .ok (.iload_n 2, 1) := by decide +kernel
theorem dX9_drag_36 : decode cX9_drag 36 = .ok (.invokevirtual 225, 3) := by decide +kernel
theorem dX9_drag_39 : decode cX9_drag 39 = .ok (.ifCond .ne 9, 3) := by decide +kernel
theorem dX9_drag_42 : decode cX9_drag 42 = .ok (.aload_n 0, 1) := by decide +kernel
theorem dX9_drag_43 : decode cX9_drag 43 = .ok (.iconst 3, 1) := by decide +kernel
theorem dX9_drag_44 : decode cX9_drag 44 = .ok (.invokevirtual 147, 3) := by decide +kernel
theorem dX9_drag_47 : decode cX9_drag 47 = .ok (.ireturn, 1) := by decide +kernel
theorem dX9_drag_48 : decode cX9_drag 48 = .ok (.aload_n 0, 1) := by decide +kernel
theorem dX9_drag_49 : decode cX9_drag 49 = .ok (.invokevirtual 194, 3) := by decide +kernel
theorem dX9_drag_52 : decode cX9_drag 52 = .ok (.aload_n 0, 1) := by decide +kernel
theorem dX9_drag_53 : decode cX9_drag 53 = .ok (.iload_n 1, 1) := by decide +kernel
theorem dX9_drag_54 : decode cX9_drag 54 = .ok (.invokevirtual 85, 3) := by decide +kernel
theorem dX9_drag_57 : decode cX9_drag 57 = .ok (.istore_n 3, 1) := by decide +kernel
theorem dX9_drag_58 : decode cX9_drag 58 = .ok (.aload_n 0, 1) := by decide +kernel
theorem dX9_drag_59 : decode cX9_drag 59 = .ok (.iload_n 3, 1) := by decide +kernel
theorem dX9_drag_60 : decode cX9_drag 60 = .ok (.iconst 1, 1) := by decide +kernel
theorem dX9_drag_61 : decode cX9_drag 61 = .ok (.invokevirtual 77, 3) := by decide +kernel
theorem dX9_drag_64 : decode cX9_drag 64 = .ok (.istore 4, 2) := by decide +kernel
theorem dX9_drag_66 : decode cX9_drag 66 = .ok (.aload_n 0, 1) := by decide +kernel
theorem dX9_drag_67 : decode cX9_drag 67 = .ok (.iload 4, 2) := by decide +kernel
theorem dX9_drag_69 : decode cX9_drag 69 = .ok (.invokevirtual 102, 3) := by decide +kernel
theorem dX9_drag_72 : decode cX9_drag 72 = .ok (.istore 5, 2) := by decide +kernel
theorem dX9_drag_74 : decode cX9_drag 74 = .ok (.iconst 0, 1) := by decide +kernel
theorem dX9_drag_75 : decode cX9_drag 75 = .ok (.istore 6, 2) := by decide +kernel
theorem dX9_drag_77 : decode cX9_drag 77 = .ok (.iload 6, 2) := by decide +kernel
theorem dX9_drag_79 : decode cX9_drag 79 = .ok (.iload 5, 2) := by decide +kernel
theorem dX9_drag_81 : decode cX9_drag 81 = .ok (.if_icmp .ge 64, 3) := by decide +kernel
theorem dX9_drag_84 : decode cX9_drag 84 = .ok (.aload_n 0, 1) := by decide +kernel
theorem dX9_drag_85 : decode cX9_drag 85 = .ok (.iload 4, 2) := by decide +kernel
theorem dX9_drag_87 : decode cX9_drag 87 = .ok (.iload 6, 2) := by decide +kernel
theorem dX9_drag_89 : decode cX9_drag 89 = .ok (.invokevirtual 105, 3) := by decide +kernel
theorem dX9_drag_92 : decode cX9_drag 92 = .ok (.istore 7, 2) := by decide +kernel
theorem dX9_drag_94 : decode cX9_drag 94 = .ok (.aload_n 0, 1) := by decide +kernel
theorem dX9_drag_95 : decode cX9_drag 95 = .ok (.iload 7, 2) := by decide +kernel
theorem dX9_drag_97 : decode cX9_drag 97 = .ok (.iconst 3, 1) := by decide +kernel
theorem dX9_drag_98 : decode cX9_drag 98 = .ok (.aload_n 0, 1) := by decide +kernel
theorem dX9_drag_99 : decode cX9_drag 99 = .ok (.iload 4, 2) := by decide +kernel
theorem dX9_drag_101 : decode cX9_drag 101 = .ok (.iload 7, 2) := by decide +kernel
theorem dX9_drag_103 : decode cX9_drag 103 = .ok (.invokevirtual 222, 3) := by decide +kernel
theorem dX9_drag_106 : decode cX9_drag 106 = .ok (.iload 7, 2) := by decide +kernel
theorem dX9_drag_108 : decode cX9_drag 108 = .ok (.iload_n 3, 1) := by decide +kernel
theorem dX9_drag_109 : decode cX9_drag 109 = .ok (.if_icmp .ne 7, 3) := by decide +kernel
theorem dX9_drag_112 : decode cX9_drag 112 = .ok (.iload_n 2, 1) := by decide +kernel
theorem dX9_drag_113 : decode cX9_drag 113 = .ok (.goto 22, 3) := by decide +kernel
theorem dX9_drag_116 : decode cX9_drag 116 = .ok (.iload 6, 2) := by decide +kernel
theorem dX9_drag_118 : decode cX9_drag 118 = .ok (.aload_n 0, 1) := by decide +kernel
theorem dX9_drag_119 : decode cX9_drag 119 = .ok (.iload_n 3, 1) := by decide +kernel
theorem dX9_drag_120 : decode cX9_drag 120 = .ok (.iconst 2, 1) := by decide +kernel
theorem dX9_drag_121 : decode cX9_drag 121 = .ok (.invokevirtual 77, 3) := by decide +kernel
theorem dX9_drag_124 : decode cX9_drag 124 = .ok (.iconst 1, 1) := by decide +kernel
theorem dX9_drag_125 : decode cX9_drag 125 = .ok (.iadd, 1) := by decide +kernel
theorem dX9_drag_126 : decode cX9_drag 126 = .ok (.if_icmp .ne 8, 3) := by decide +kernel
theorem dX9_drag_129 : decode cX9_drag 129 = .ok (.iload_n 2, 1) := by decide +kernel
theorem dX9_drag_130 : decode cX9_drag 130 = .ok (.ineg, 1) := by decide +kernel
theorem dX9_drag_131 : decode cX9_drag 131 = .ok (.goto 4, 3) := by decide +kernel
theorem dX9_drag_134 : decode cX9_drag 134 = .ok (.iconst 0, 1) := by decide +kernel
theorem dX9_drag_135 : decode cX9_drag 135 = .ok (.iadd, 1) := by decide +kernel
theorem dX9_drag_136 : decode cX9_drag 136 = .ok (.invokevirtual 81, 3) := by decide +kernel
theorem dX9_drag_139 : decode cX9_drag 139 = .ok (.iinc 6 1, 3) := by decide +kernel
theorem dX9_drag_142 : decode cX9_drag 142 = .ok (.goto (-65), 3) := by decide +kernel
theorem dX9_drag_145 : decode cX9_drag 145 = .ok (.aload_n 0, 1) := by decide +kernel
theorem dX9_drag_146 : decode cX9_drag 146 = .ok (.invokevirtual 219, 3) := by decide +kernel
theorem dX9_drag_149 : decode cX9_drag 149 = .ok (.aload_n 0, 1) := by decide +kernel
theorem dX9_drag_150 : decode cX9_drag 150 = .ok (.aload_n 0, 1) := by decide +kernel
theorem dX9_drag_151 : decode cX9_drag 151 = .ok (.iload 4, 2) := by decide +kernel
theorem dX9_drag_153 : decode cX9_drag 153 = .ok (.iload_n 3, 1) := by decide +kernel
theorem dX9_drag_154 : decode cX9_drag 154 = .ok (.invokevirtual 222, 3) := by decide +kernel
theorem dX9_drag_157 : decode cX9_drag 157 = .ok (.invokevirtual 153, 3) := by decide +kernel
theorem dX9_drag_160 : decode cX9_drag 160 = .ok (.ireturn, 1) := by decide +kernel
def drgV (T Z : Mem) (s g d j : Int) : Int := exF T Z s (chT T s j) + (if chT T s j = g then d else if j = T 2 g + 1 then -d else 0)
def drgT (T Z : Mem) (s g d : Int) : Nat → Mem
  | 0 => T
  | j + 1 => up (drgT T Z s g d j) 3 (chT T s j) (drgV T Z s g d j)
theorem drgT_k (T Z : Mem) (s g d : Int) {w : Nat} (hw : w ≠ 3) (i : Int) : ∀ j, drgT T Z s g d j w i = T w i
  | 0 => rfl
  | j + 1 => by rw [drgT, up_a _ _ _ _ hw]; exact drgT_k T Z s g d hw i j
theorem drgT_ch (T Z : Mem) (s g d : Int) (j : Nat) (h k : Int) : chT (drgT T Z s g d j) h k = chT T h k := by
  unfold chT
  congr 1
  funext o
  unfold isC
  rw [drgT_k T Z s g d (by omega), drgT_k T Z s g d (by omega), drgT_k T Z s g d (by omega)]
theorem drgT_ex (T Z : Mem) (s g d : Int) (j : Nat) (h k : Int) : exF (drgT T Z s g d j) Z h k = exF T Z h k := by unfold exF; rw [drgT_k T Z s g d (by omega)]
theorem drgT_TB {T Z : Mem} {s g d : Int} (hB : TB 10000000 T) (hd : -400 ≤ d ∧ d ≤ 400) {m : Nat} (hE : ∀ i : Int, 0 ≤ i → i < m → -1000000 ≤ exF T Z s (chT T s i) ∧ exF T Z s (chT T s i) ≤ 1000000) : ∀ j : Nat, j ≤ m → TB 10000000 (drgT T Z s g d j)
  | 0, _ => hB
  | j + 1, hj => by
    have e := hE j (by omega) (by omega)
    rw [drgT]
    refine (drgT_TB hB hd hE j (by omega)).upd _ _ ?_ (by omega) (by omega)
    unfold drgV
    (repeat' split) <;> omega
theorem lyR4 {mu T Z : Mem} {r : Nat} {q : Int} : lyM mu r T q Z r 4 = mu r 4 := by
  rw [lyM, pt_r]
  unfold zM
  rw [if_neg (by omega), if_neg (by omega)]
def drgF (mu : Mem) (r : Nat) (x d v : Int) : Int := if ¬ (0 ≤ x ∧ x ≤ mu (r + 1) 2 - 1) then 1 else if ¬ (-400 ≤ d ∧ d ≤ 400) then 2 else if v = 1 then 0 else 3
/-- the memory when the divider may be dragged: held -/
def drgH (mu : Mem) (r : Nat) : Mem := hdM (lyW mu r) r
theorem p_dragNo (hG : GP G) (hM : MoS S r) (hW : MWo mu r) {x d : Int} (hx : -2147483648 ≤ x ∧ x ≤ 2147483647) (hd : -2147483648 ≤ d ∧ d ≤ 2147483647) {v : Int} {m : Mem} (h9 : (0 ≤ x ∧ x ≤ mu (r + 1) 2 - 1) → (-400 ≤ d ∧ d ≤ 400) → ∀ (l : Launch) (n : Nat) (la : Lam), Ct G l yX9_mayDrag wsX9_mayDrag 7 0 0 [.ref r, .int (I32 x), .int (I32 d)] S n mu la (Dt (some (.int (I32 v))) S n m la)) (hv : v = 0 ∨ v = 1) (hF : drgF mu r x d v ≠ 0) : Ct G l yX9_drag wsX9_drag 8 0 0 [.ref r, .int (I32 x), .int (I32 d)] S n mu la (Dt (some (.int (I32 0))) S n (up (if drgF mu r x d v = 3 then m else mu) r 7 (drgF mu r x d v)) la) := by
  have o9 := hM.1
  have hP := hW.2.2.1
  refine Ct.ofV (cc := cX9_drag) (nL := 8) (ret := (some .int)) [some (.ref r), some (.int (I32 x)), some (.int (I32 d)), none, none, none, none, none] hG (by decide) rfl (Nat.le_of_ble_eq_true rfl) rfl ?_
  rintro X rfl rfl C hcl hsl E
  refine V_aload_n C dX9_drag_0 rfl ?_
  refine V_iload_n C dX9_drag_1 rfl ?_
  refine V_callVD (nA := 1) C dX9_drag_2 (m_isPane C.gp hM hP hx) gX9_drag_X9_isPane rfl o9 rfl (by decide +kernel) rfl (by decide) (by decide) (Nat.le_of_ble_eq_true rfl) ⟨by omega, by omega⟩ rfl ?_
  by_cases hb : 0 ≤ x ∧ x ≤ mu (r + 1) 2 - 1
  · rw [inI_1 hb]
    refine V_if_ne C 14 dX9_drag_5 (by decide) (by omega) (fun z0 => ?_) (fun z0 => ?_)
    · refine V_iload_n C dX9_drag_14 rfl ?_
      refine V_sipush C dX9_drag_15 (by decide +kernel) ?_
      refine V_sipush C dX9_drag_18 (by decide +kernel) ?_
      refine V_callSD (nA := 3) C dX9_drag_21 (m_in C.gp hd (by omega) (by omega)) gX9_drag_X9_in rfl (by decide +kernel) rfl (by decide) (by decide) (Nat.le_of_ble_eq_true rfl) ⟨by omega, by omega⟩ rfl ?_
      by_cases hc : -400 ≤ d ∧ d ≤ 400
      · rw [inI_1 hc]
        refine V_if_ne C 33 dX9_drag_24 (by decide) (by omega) (fun z1 => ?_) (fun z1 => ?_)
        · refine V_aload_n C dX9_drag_33 rfl ?_
          refine V_iload_n C dX9_drag_34 rfl ?_
          refine V_iload_n C dX9_drag_35 rfl ?_
          refine V_callVD (nA := 2) C dX9_drag_36 (h9 hb hc _ _ _) gX9_drag_X9_mayDrag rfl o9 rfl (by decide +kernel) rfl (by decide) (by decide) (Nat.le_of_ble_eq_true rfl) ⟨by omega, by omega⟩ rfl ?_
          refine V_if_ne C 48 dX9_drag_39 (by decide) (by omega) (fun z2 => ?_) (fun z2 => ?_)
          · have e0 : drgF mu r x d v = 0 := by unfold drgF; (repeat' split) <;> omega
            exact absurd e0 hF
          · have e0 : drgF mu r x d v = 3 := by unfold drgF; (repeat' split) <;> omega
            rw [e0, if_pos rfl] at E
            refine V_aload_n C dX9_drag_42 rfl ?_
            refine V_iconst C dX9_drag_43 ?_
            refine V_callVD (nA := 1) C dX9_drag_44 (m_fails C.gp hM) gX9_drag_X9_fails rfl o9 rfl (by decide +kernel) rfl (by decide) (by decide) (Nat.le_of_ble_eq_true rfl) ⟨by omega, by omega⟩ rfl ?_
            refine V_ireturn C E dX9_drag_47 (by omega) (by omega) ?_
            exact Dt_rfl
        · exact absurd z1 (by decide)
      · rw [inI_0 hc]
        have e0 : drgF mu r x d v = 2 := by unfold drgF; (repeat' split) <;> omega
        rw [e0, if_neg (by decide)] at E
        refine V_if_ne C 33 dX9_drag_24 (by decide) (by omega) (fun z1 => ?_) (fun z1 => ?_)
        · exact absurd rfl z1
        · refine V_aload_n C dX9_drag_27 rfl ?_
          refine V_iconst C dX9_drag_28 ?_
          refine V_callVD (nA := 1) C dX9_drag_29 (m_fails C.gp hM) gX9_drag_X9_fails rfl o9 rfl (by decide +kernel) rfl (by decide) (by decide) (Nat.le_of_ble_eq_true rfl) ⟨by omega, by omega⟩ rfl ?_
          refine V_ireturn C E dX9_drag_32 (by omega) (by omega) ?_
          exact Dt_rfl
    · exact absurd z0 (by decide)
  · rw [inI_0 hb]
    have e0 : drgF mu r x d v = 1 := by unfold drgF; (repeat' split) <;> omega
    rw [e0, if_neg (by decide)] at E
    refine V_if_ne C 14 dX9_drag_5 (by decide) (by omega) (fun z0 => ?_) (fun z0 => ?_)
    · exact absurd rfl z0
    · refine V_aload_n C dX9_drag_8 rfl ?_
      refine V_iconst C dX9_drag_9 ?_
      refine V_callVD (nA := 1) C dX9_drag_10 (m_fails C.gp hM) gX9_drag_X9_fails rfl o9 rfl (by decide +kernel) rfl (by decide) (by decide) (Nat.le_of_ble_eq_true rfl) ⟨by omega, by omega⟩ rfl ?_
      refine V_ireturn C E dX9_drag_13 (by omega) (by omega) ?_
      exact Dt_rfl
theorem p_drag (hG : GP G) (hM : MoS S r) (hW : MWo mu r) {x d : Int} (hx : 0 ≤ x ∧ x < 16) (hxP : x ≤ mu (r + 1) 2 - 1) (hd : -400 ≤ d ∧ d ≤ 400) (h9 : ∀ (l : Launch) (n : Nat) (la : Lam), Ct G l yX9_mayDrag wsX9_mayDrag 7 0 0 [.ref r, .int (I32 x), .int (I32 d)] S n mu la (Dt (some (.int (I32 1))) S n (lyW mu r) la))
    {mh T Z Tn : Mem} {s g : Int} {m : Nat} (emh : mh = drgH mu r) (eT : T = trT mu r) (eZ : Z = zOf mh r) (eg : g = T 9 x) (es : s = T 1 g) (em : (m : Int) = kdT T s) (eTn : Tn = drgT T Z s g d m) (hR : R32 mh) (hg : 0 ≤ g) (hs : 0 ≤ s) (hm : m ≤ 32) (e4 : mh r 4 = mu r 4) (e0 : mh (r + 1) 0 = mu (r + 1) 0) (e1 : mh (r + 1) 1 = mu (r + 1) 1) (e2 : mh (r + 1) 2 = mu (r + 1) 2) (eTr : trT (lyW mu r) r = T)
    (hE : ∀ i : Int, 0 ≤ i → i < m → -1000000 ≤ exF T Z s (chT T s i) ∧ exF T Z s (chT T s i) ≤ 1000000) (hC : ∀ i : Int, 0 ≤ i → i < m → 0 ≤ chT T s i) (hy : LyOk mh r Tn Z (mu (r + 1) 0) (mu (r + 1) 1)) :
    Ct G l yX9_drag wsX9_drag 8 0 0 [.ref r, .int (I32 x), .int (I32 d)] S n mu la (Dt (some (.int (I32 (exF Tn (laZ mh r Tn Z (mu (r + 1) 0) (mu (r + 1) 1)) s g)))) S n (enM (lyM mh r Tn (quT Tn Z).1 (laZ mh r Tn Z (mu (r + 1) 0) (mu (r + 1) 1))) r) la) := by
  have o9 := hM.1
  have hP := hW.2.2.1
  have hB : TB 10000000 T := by rw [eT]; exact hW.2.1
  have b9 := hB.g hx
  have gb : 0 ≤ g ∧ g < 32 := by omega
  have b1 := hB.p gb
  have sb : 0 ≤ s ∧ s < 32 := by omega
  have b2 := hB.n 2 (by decide) gb
  have hBj := fun j h => drgT_TB (g := g) hB hd hE j h
  refine Ct.ofV (cc := cX9_drag) (nL := 8) (ret := (some .int)) [some (.ref r), some (.int (I32 x)), some (.int (I32 d)), none, none, none, none, none] hG (by decide) rfl (Nat.le_of_ble_eq_true rfl) rfl ?_
  rintro X rfl rfl C hcl hsl E
  refine V_aload_n C dX9_drag_0 rfl ?_
  refine V_iload_n C dX9_drag_1 rfl ?_
  refine V_callVD (nA := 1) C dX9_drag_2 (m_isPane C.gp hM hP (by omega)) gX9_drag_X9_isPane rfl o9 rfl (by decide +kernel) rfl (by decide) (by decide) (Nat.le_of_ble_eq_true rfl) ⟨by omega, by omega⟩ rfl ?_
  rw [inI_1 (show 0 ≤ x ∧ x ≤ mu (r + 1) 2 - 1 from ⟨hx.1, hxP⟩)]
  refine V_if_ne C 14 dX9_drag_5 (by decide) (by omega) (fun z0 => ?_) (fun z0 => ?_)
  · refine V_iload_n C dX9_drag_14 rfl ?_
    refine V_sipush C dX9_drag_15 (by decide +kernel) ?_
    refine V_sipush C dX9_drag_18 (by decide +kernel) ?_
    refine V_callSD (nA := 3) C dX9_drag_21 (m_in C.gp (by omega) (by omega) (by omega)) gX9_drag_X9_in rfl (by decide +kernel) rfl (by decide) (by decide) (Nat.le_of_ble_eq_true rfl) ⟨by omega, by omega⟩ rfl ?_
    rw [inI_1 hd]
    refine V_if_ne C 33 dX9_drag_24 (by decide) (by omega) (fun z1 => ?_) (fun z1 => ?_)
    · refine V_aload_n C dX9_drag_33 rfl ?_
      refine V_iload_n C dX9_drag_34 rfl ?_
      refine V_iload_n C dX9_drag_35 rfl ?_
      refine V_callVD (nA := 2) C dX9_drag_36 (h9 _ _ _) gX9_drag_X9_mayDrag rfl o9 rfl (by decide +kernel) rfl (by decide) (by decide) (Nat.le_of_ble_eq_true rfl) ⟨by omega, by omega⟩ rfl ?_
      refine V_if_ne C 48 dX9_drag_39 (by decide) (by omega) (fun z2 => ?_) (fun z2 => ?_)
      · refine V_aload_n C dX9_drag_48 rfl ?_
        refine V_callVD (nA := 0) C dX9_drag_49 (m_hold C.gp hM) gX9_drag_X9_hold rfl o9 rfl (by decide +kernel) rfl (by decide) (by decide) (Nat.le_of_ble_eq_true rfl) ⟨by omega, by omega⟩ rfl ?_
        rw [show cpF (lyW mu r) (r + 1) (r + 3) 1639 = drgH mu r from rfl, show drgH mu r = ptT mh r T by rw [emh, ← eTr]; exact hdM_pt _ _, ptT_ly, ← eZ]
        have loop : ∀ (dd j : Nat) (w7 : Option Value), j + dd = m → V X 77 [some (.ref r), some (.int (I32 x)), some (.int (I32 d)), some (.int (I32 g)), some (.int (I32 s)), some (.int (I32 (m : Int))), some (.int (I32 (j : Int))), w7] [] S n (lyM mh r (drgT T Z s g d j) (mh r 9) Z) la 0 0 := by
          intro dd
          induction dd with
          | zero =>
            intro j w7 h1
            have hj : j = m := by omega
            subst hj
            rw [← eTn]
            have hBn : TB 10000000 Tn := by rw [eTn]; exact hBj _ (by omega)
            refine V_iload C dX9_drag_77 rfl ?_
            refine V_iload C dX9_drag_79 rfl ?_
            refine V_icmp_ge C 145 dX9_drag_81 (by decide) (by omega) (by omega) (fun z3 => ?_) (fun z3 => ?_)
            · have hly := m_laysAll (l := xL X) (n := n) (la := la) (mu := mh) (T := Tn) (Z := Z) (q0 := mh r 9) C.gp hM hR (by rw [eZ]; exact zOf_R hR r) hBn (by decide) (by rw [e2]; exact hP) hy.1 hy.2.1.2 hy.2.1.1 (by rw [e0, e1]; exact hy.2.2)
              rw [e0, e1] at hly
              refine V_aload_n C dX9_drag_145 rfl ?_
              refine V_callVD (nA := 0) C dX9_drag_146 hly gX9_drag_X9_laysAll rfl o9 rfl (by decide +kernel) rfl (by decide) (by decide) (Nat.le_of_ble_eq_true rfl) ⟨by omega, by omega⟩ rfl ?_
              refine V_aload_n C dX9_drag_149 rfl ?_
              refine V_aload_n C dX9_drag_150 rfl ?_
              refine V_iload C dX9_drag_151 rfl ?_
              refine V_iload_n C dX9_drag_153 rfl ?_
              refine V_callVD (nA := 2) C dX9_drag_154 (m_extent C.gp hM hBn (by decide) sb gb) gX9_drag_X9_extent rfl o9 rfl (by decide +kernel) rfl (by decide) (by decide) (Nat.le_of_ble_eq_true rfl) ⟨by omega, by omega⟩ rfl ?_
              refine V_callVD (nA := 1) C dX9_drag_157 (m_ends C.gp hM (by rw [show lyM mh r Tn (quT Tn Z).1 (laZ mh r Tn Z (mu (r + 1) 0) (mu (r + 1) 1)) r 4 = mh r 4 from lyR4, e4]; exact hW.2.2.2.1)) gX9_drag_X9_ends rfl o9 rfl (by decide +kernel) rfl (by decide) (by decide) (Nat.le_of_ble_eq_true rfl) ⟨by omega, by omega⟩ rfl ?_
              refine V_ireturn C E dX9_drag_160 (by omega) (by omega) ?_
              exact Dt_rfl
            · omega
          | succ dd ih =>
            intro j w7 h1
            have hBi := hBj j (by omega)
            have ec := drgT_ch T Z s g d j s j
            have cj := hC j (by omega) (by omega)
            have cb := chT_b T s j
            have ej := hE j (by omega) (by omega)
            have cc : 0 ≤ chT T s j ∧ chT T s j < 32 := ⟨cj, cb.2⟩
            have h9 := ih (j + 1) (some (.int (I32 (chT T s j)))) (by omega)
            rw [drgT] at h9
            refine V_iload C dX9_drag_77 rfl ?_
            refine V_iload C dX9_drag_79 rfl ?_
            refine V_icmp_ge C 145 dX9_drag_81 (by decide) (by omega) (by omega) (fun z3 => ?_) (fun z3 => ?_)
            · omega
            · refine V_aload_n C dX9_drag_84 rfl ?_
              refine V_iload C dX9_drag_85 rfl ?_
              refine V_iload C dX9_drag_87 rfl ?_
              refine V_callVD (nA := 2) C dX9_drag_89 (m_child C.gp hM hBi (by decide) (by omega) (by omega)) gX9_drag_X9_child rfl o9 rfl (by decide +kernel) rfl (by decide) (by decide) (Nat.le_of_ble_eq_true rfl) ⟨by omega, by omega⟩ rfl ?_
              rw [ec]
              have tail : V X 136 [some (.ref r), some (.int (I32 x)), some (.int (I32 d)), some (.int (I32 g)), some (.int (I32 s)), some (.int (I32 (m : Int))), some (.int (I32 (j : Int))), some (.int (I32 (chT T s j)))] [.int (I32 (drgV T Z s g d j)), .int (I32 3), .int (I32 (chT T s j)), .ref r] S n (lyM mh r (drgT T Z s g d j) (mh r 9) Z) la 0 0 := by
                refine V_callVD (nA := 3) C dX9_drag_136 (m_puts C.gp hM cc 3 (by decide) rfl) gX9_drag_X9_puts rfl o9 rfl (by decide +kernel) rfl (by decide) (by decide) (Nat.le_of_ble_eq_true rfl) ⟨by omega, by omega⟩ rfl ?_
                refine V_iinc C dX9_drag_139 rfl rfl (by decide) ?_
                refine V_goto C 77 dX9_drag_142 (by decide) ?_
                exact h9
              refine V_istore C dX9_drag_92 rfl (by decide) ?_
              refine V_aload_n C dX9_drag_94 rfl ?_
              refine V_iload C dX9_drag_95 rfl ?_
              refine V_iconst C dX9_drag_97 ?_
              refine V_aload_n C dX9_drag_98 rfl ?_
              refine V_iload C dX9_drag_99 rfl ?_
              refine V_iload C dX9_drag_101 rfl ?_
              refine V_callVD (nA := 2) C dX9_drag_103 (m_extent C.gp hM hBi (by decide) sb cc) gX9_drag_X9_extent rfl o9 rfl (by decide +kernel) rfl (by decide) (by decide) (Nat.le_of_ble_eq_true rfl) ⟨by omega, by omega⟩ rfl ?_
              rw [drgT_ex]
              refine V_iload C dX9_drag_106 rfl ?_
              refine V_iload_n C dX9_drag_108 rfl ?_
              refine V_icmp_ne C 116 dX9_drag_109 (by decide) (by omega) (by omega) (fun z4 => ?_) (fun z4 => ?_)
              · refine V_iload C dX9_drag_116 rfl ?_
                refine V_aload_n C dX9_drag_118 rfl ?_
                refine V_iload_n C dX9_drag_119 rfl ?_
                refine V_iconst C dX9_drag_120 ?_
                refine V_callVD (nA := 2) C dX9_drag_121 (m_of C.gp hM gb 2 (by decide) rfl) gX9_drag_X9_of rfl o9 rfl (by decide +kernel) rfl (by decide) (by decide) (Nat.le_of_ble_eq_true rfl) ⟨by omega, by omega⟩ rfl ?_
                rw [drgT_k T Z s g d (by decide)]
                refine V_iconst C dX9_drag_124 ?_
                refine V_iadd C dX9_drag_125 ?_
                refine V_icmp_ne C 134 dX9_drag_126 (by decide) (by omega) (by omega) (fun z5 => ?_) (fun z5 => ?_)
                · refine V_iconst C dX9_drag_134 ?_
                  refine V_iadd C dX9_drag_135 ?_
                  rw [show exF T Z s (chT T s j) + 0 = drgV T Z s g d j by unfold drgV; rw [if_neg z4, if_neg z5]]
                  exact tail
                · refine V_iload_n C dX9_drag_129 rfl ?_
                  refine V_ineg C dX9_drag_130 ?_
                  refine V_goto C 135 dX9_drag_131 (by decide) ?_
                  refine V_iadd C dX9_drag_135 ?_
                  rw [show exF T Z s (chT T s j) + -d = drgV T Z s g d j by unfold drgV; rw [if_neg z4, if_pos (by omega)]]
                  exact tail
              · refine V_iload_n C dX9_drag_112 rfl ?_
                refine V_goto C 135 dX9_drag_113 (by decide) ?_
                refine V_iadd C dX9_drag_135 ?_
                rw [show exF T Z s (chT T s j) + d = drgV T Z s g d j by unfold drgV; rw [if_pos (by omega)]]
                exact tail
        refine V_aload_n C dX9_drag_52 rfl ?_
        refine V_iload_n C dX9_drag_53 rfl ?_
        refine V_callVD (nA := 1) C dX9_drag_54 (m_groupOf C.gp hM hx) gX9_drag_X9_groupOf rfl o9 rfl (by decide +kernel) rfl (by decide) (by decide) (Nat.le_of_ble_eq_true rfl) ⟨by omega, by omega⟩ rfl ?_
        rw [← eg]
        refine V_istore_n C dX9_drag_57 rfl (by decide) ?_
        refine V_aload_n C dX9_drag_58 rfl ?_
        refine V_iload_n C dX9_drag_59 rfl ?_
        refine V_iconst C dX9_drag_60 ?_
        refine V_callVD (nA := 2) C dX9_drag_61 (m_of C.gp hM gb 1 (by decide) rfl) gX9_drag_X9_of rfl o9 rfl (by decide +kernel) rfl (by decide) (by decide) (Nat.le_of_ble_eq_true rfl) ⟨by omega, by omega⟩ rfl ?_
        rw [← es]
        refine V_istore C dX9_drag_64 rfl (by decide) ?_
        refine V_aload_n C dX9_drag_66 rfl ?_
        refine V_iload C dX9_drag_67 rfl ?_
        refine V_callVD (nA := 1) C dX9_drag_69 (m_children C.gp hM hB (by decide) (by omega)) gX9_drag_X9_children rfl o9 rfl (by decide +kernel) rfl (by decide) (by decide) (Nat.le_of_ble_eq_true rfl) ⟨by omega, by omega⟩ rfl ?_
        rw [← em]
        refine V_istore C dX9_drag_72 rfl (by decide) ?_
        refine V_iconst C dX9_drag_74 ?_
        refine V_istore C dX9_drag_75 rfl (by decide) ?_
        exact loop m 0 none (by omega)
      · exact absurd z2 (by decide)
    · exact absurd z1 (by decide)
  · exact absurd z0 (by decide)
end MD
