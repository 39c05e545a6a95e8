/-! DockTree: the calls that ask -/
def ppF (mu : Mem) (c : Nat) (x w : Int) : Int := if pnF mu c x = 1 then frF w 0 11 else 1
def paF (mu : Mem) (c p : Nat) (x w : Int) : Int :=
  if w = 0 then gK mu (c + 1) 32 (2 * x + 0) else if w = 1 then gK mu (c + 1) 32 (2 * x + 1) else if w = 2 then sttF (lay mu (c + 2)) x else
    if sttF (lay mu (c + 2)) x = 0 then -1 else vgF (lay mu (c + 2)) (pl mu p) x (gL (lay mu (c + 2)) 0 x) w
def fspF (mu : Mem) (c : Nat) (x v w : Int) : Int := if pnF mu c x = 1 then fsF v w else 1
def upG (L : Mem) : Nat → Int → Int → Int × Int
  | 0, u, s => (u, s)
  | d + 1, u, s => if spF s = 1 then upG L d s (gL L 0 s) else (u, s)
def spvF (L P : Mem) (x v w : Int) : Int :=
  if spF (upG L v.toNat (gL L 0 x) (gL L 0 (gL L 0 x))).2 = 1 then vsF L P (upG L v.toNat (gL L 0 x) (gL L 0 (gL L 0 x))).2 (upG L v.toNat (gL L 0 x) (gL L 0 (gL L 0 x))).1 w else -1
def fpaF (mu : Mem) (c : Nat) (x y : Int) : Int := if (0 ≤ x ∧ x < mu c 0) ∧ 0 ≤ y ∧ y < mu c 1 then 0 else 1
def ftG (L P : Mem) (x y : Int) : Nat → Int
  | 0 => gL L 4 (tgF P x y - 16)
  | m + 1 => if cvF P (mo P 48 m) x y = 1 then gL L 4 (mo P 48 m - 16) else ftG L P x y m
def patF (L P : Mem) (x y : Int) : Int := ftG L P x y (gL L 2 48).toNat
def ftbF (mu : Mem) (c : Nat) (x i : Int) : Int := if pnF mu c x = 1 then fiF i else 1
def tabF (L : Mem) (x i : Int) : Int := if gL L 0 x = -1 then -1 else mbrF L (gL L 0 x) i
def whF (mu : Mem) (c p : Nat) (w : Int) : Int :=
  if w = 0 then mu c 0 else if w = 1 then mu c 1 else if w = 2 then mu c 2 else if w = 3 then piG (lay mu (c + 2)) 1 (mu c 2).toNat else if w = 4 then piG (lay mu (c + 2)) 2 (mu c 2).toNat else
    if w = 5 then mu p 9 - mu p 10 else if w = 6 then mu p 10 else if w = 7 then gL (lay mu (c + 2)) 2 48 else if w = 8 then lrF (pl mu p) 0 else if w = 9 then lrF (pl mu p) 1 else if w = 10 then mu p 11 else mu p 12
theorem ppF_0 {mu : Mem} {c : Nat} {x w : Int} (h : ppF mu c x w = 0) (hp : mu c 2 ≤ 16) : (0 ≤ x ∧ x ≤ 15) ∧ (0 ≤ w ∧ w ≤ 11) ∧ pnF mu c x = 1 ∧ frF w 0 11 = 0 := by
  unfold ppF at h
  split at h
  · rename_i q
    refine ⟨pnF_1 (x := x) (by omega) hp, ?_, q, h⟩
    unfold frF at h
    split at h <;> omega
  · omega
theorem fspF_0 {mu : Mem} {c : Nat} {x v w : Int} (h : fspF mu c x v w = 0) (hp : mu c 2 ≤ 16) : (0 ≤ x ∧ x ≤ 15) ∧ (0 ≤ v ∧ 0 ≤ w ∧ w ≤ 7) ∧ pnF mu c x = 1 ∧ fsF v w = 0 := by
  unfold fspF at h
  split at h
  · rename_i q
    refine ⟨pnF_1 (x := x) (by omega) hp, ?_, q, h⟩
    unfold fsF at h
    split at h <;> omega
  · omega
theorem ftbF_0 {mu : Mem} {c : Nat} {x i : Int} (h : ftbF mu c x i = 0) (hp : mu c 2 ≤ 16) : (0 ≤ x ∧ x ≤ 15) ∧ 0 ≤ i ∧ pnF mu c x = 1 ∧ fiF i = 0 := by
  unfold ftbF at h
  split at h
  · rename_i q
    refine ⟨pnF_1 (x := x) (by omega) hp, ?_, q, h⟩
    unfold fiF at h
    split at h <;> omega
  · omega
section D5
variable {G : Gx} {l : Launch} {S : Sh} {n : Nat} {mu : Mem} {la : Lam} {a c h t p b q : Nat}
set_option maxRecDepth 20000 in
theorem ggX8_pane_X8_isPane : GoodIn wsX8_pane wsX8_isPane := goodIn_r _ [6, 1, 90, 91, 92, 93, 94, 95, 96, 97, 98, 99, 100, 101, 102] (by decide +kernel) (by decide +kernel)
set_option maxRecDepth 20000 in
theorem gX8_pane_X8_isPane : GoodIn wsX8_pane (wsV RX8 79 RX8 yX8_isPane wsX8_isPane) := goodIn_app (goodIn_of _ (by decide +kernel)) ggX8_pane_X8_isPane
set_option maxRecDepth 20000 in
theorem ggX8_pane_X8_faultOfRange : GoodIn wsX8_pane wsX8_faultOfRange := goodIn_r _ [9] (by decide +kernel) (by decide +kernel)
set_option maxRecDepth 20000 in
theorem gX8_pane_X8_faultOfRange : GoodIn wsX8_pane (va_wsS RX8 200 yX8_faultOfRange wsX8_faultOfRange) := goodIn_app (goodIn_of _ (by decide +kernel)) ggX8_pane_X8_faultOfRange
set_option maxRecDepth 20000 in
theorem ggX8_pane_X8_throwIf : GoodIn wsX8_pane wsX8_throwIf := goodIn_ca (goodIn_ca (goodIn_ca (goodIn_r _ [12, 13, 14, 15, 16, 17, 18] (by decide +kernel) (by decide +kernel)) (goodIn_sub (fun _ h => List.mem_cons_of_mem _ (List.mem_append_left _ (List.mem_append_left _ (List.mem_append_right _ h)))) (by decide +kernel))) (goodIn_sub (fun _ h => List.mem_cons_of_mem _ (List.mem_append_left _ (List.mem_append_right _ h))) (by decide +kernel))) (goodIn_sub (fun _ h => List.mem_cons_of_mem _ (List.mem_append_right _ h)) (by decide +kernel))
set_option maxRecDepth 20000 in
theorem gX8_pane_X8_throwIf : GoodIn wsX8_pane (va_wsS RX8 51 yX8_throwIf wsX8_throwIf) := goodIn_app (goodIn_of _ (by decide +kernel)) ggX8_pane_X8_throwIf
set_option maxRecDepth 20000 in
theorem ggX8_pane_X7_leastOf : GoodIn wsX8_pane wsX7_leastOf := goodIn_r _ [23, 24, 25, 5, 26, 96, 97, 98, 99, 100, 101, 102] (by decide +kernel) (by decide +kernel)
set_option maxRecDepth 20000 in
theorem gX8_pane_X7_leastOf : GoodIn wsX8_pane (wsV RX8 86 RX7 yX7_leastOf wsX7_leastOf) := goodIn_app (goodIn_of _ (by decide +kernel)) ggX8_pane_X7_leastOf
set_option maxRecDepth 20000 in
theorem ggX8_pane_X4_stateOf : GoodIn wsX8_pane wsX4_stateOf := goodIn_r _ [31, 32, 25, 5, 26, 103, 104, 105, 106, 107, 108, 109, 110] (by decide +kernel) (by decide +kernel)
set_option maxRecDepth 20000 in
theorem gX8_pane_X4_stateOf : GoodIn wsX8_pane (wsV RX8 137 RX4 yX4_stateOf wsX4_stateOf) := goodIn_app (goodIn_of _ (by decide +kernel)) ggX8_pane_X4_stateOf
set_option maxRecDepth 20000 in
theorem ggX8_pane_X4_holderOf : GoodIn wsX8_pane wsX4_holderOf := goodIn_r _ [36, 32, 25, 5, 26, 103, 104, 105, 106, 107, 108, 109, 110] (by decide +kernel) (by decide +kernel)
set_option maxRecDepth 20000 in
theorem gX8_pane_X4_holderOf : GoodIn wsX8_pane (wsV RX8 103 RX4 yX4_holderOf wsX4_holderOf) := goodIn_app (goodIn_of _ (by decide +kernel)) ggX8_pane_X4_holderOf
set_option maxRecDepth 20000 in
theorem ggX8_pane_X8_valueInGroup : GoodIn wsX8_pane wsX8_valueInGroup := goodIn_r _ [40, 41, 1, 42, 43, 44, 45, 46, 47, 25, 5, 26, 48, 49, 50, 51, 52, 53, 54, 55, 56, 57, 58, 59, 60, 61, 62, 63, 64, 30, 65, 66, 67, 68, 69, 70, 71, 72, 73, 74, 75, 76, 33, 34, 35, 36, 32, 77, 78, 79, 80, 81, 82, 83, 84, 85, 86, 87, 88, 89, 90, 91, 92, 93, 94, 95, 96, 97, 98, 99, 100, 101, 102, 111, 112, 113, 114, 115, 116, 117, 118, 119, 120, 121, 122, 123, 103, 104, 105, 106, 107, 108, 109, 110] (by decide +kernel) (by decide +kernel)
set_option maxRecDepth 20000 in
theorem gX8_pane_X8_valueInGroup : GoodIn wsX8_pane (wsV RX8 203 RX8 yX8_valueInGroup wsX8_valueInGroup) := goodIn_app (goodIn_of _ (by decide +kernel)) ggX8_pane_X8_valueInGroup
theorem dX8_pane_0 : decode cX8_pane 0 = .ok (.aload_n 0, 1) := by decide +kernel
theorem dX8_pane_1 : decode cX8_pane 1 = .ok (.iload_n 1, 1) := by decide +kernel
theorem dX8_pane_2 : decode cX8_pane 2 = .ok (.invokevirtual 79, 3) := by decide +kernel
theorem dX8_pane_5 : decode cX8_pane 5 = .ok (.ifCond .eq 13, 3) := by decide +kernel
theorem dX8_pane_8 : decode cX8_pane 8 = .ok (.iload_n 2, 1) := by decide +kernel
theorem dX8_pane_9 : decode cX8_pane 9 = .ok (.iconst 0, 1) := by decide +kernel
theorem dX8_pane_10 : decode cX8_pane 10 = .ok (.bipush 11, 2) := by decide +kernel
theorem dX8_pane_12 : decode cX8_pane 12 = .ok (.invokestatic 200, 3) := by decide +kernel
theorem dX8_pane_15 : decode cX8_pane 15 = .ok (.goto 4, 3) := by decide +kernel
theorem dX8_pane_18 : decode cX8_pane 18 = .ok (.iconst 1, 1) := by decide +kernel
theorem dX8_pane_19 : decode cX8_pane 19 = .ok (.invokestatic 51, 3) := by decide +kernel
theorem dX8_pane_22 : decode cX8_pane 22 = .ok (.iload_n 2, 1) := by decide +kernel
theorem dX8_pane_23 : decode cX8_pane 23 = .ok (.ifCond .eq 8, 3) := by decide +kernel
theorem dX8_pane_26 : decode cX8_pane 26 = .ok (.iload_n 2, 1) := by decide +kernel
theorem dX8_pane_27 : decode cX8_pane 27 = .ok (.iconst 1, 1) := by decide +kernel
theorem dX8_pane_28 : decode cX8_pane 28 = .ok (.if_icmp .ne 21, 3) := by decide +kernel
theorem dX8_pane_31 : decode cX8_pane 31 = .ok (.aload_n 0, 1) := by decide +kernel
theorem dX8_pane_32 : decode cX8_pane 32 = .ok (.getfield 12, 3) := by decide +kernel
theorem dX8_pane_35 : decode cX8_pane 35 = .ok (.iload_n 1, 1) := by decide +kernel
theorem dX8_pane_36 : decode cX8_pane 36 = .ok (.iload_n 2, 1) := by decide +kernel
theorem dX8_pane_37 : decode cX8_pane 37 = .ok (.ifCond .ne 7, 3) := by decide +kernel
theorem dX8_pane_40 : decode cX8_pane 40 = .ok (.iconst 0, 1) := by decide +kernel
theorem dX8_pane_41 : decode cX8_pane 41 = .ok (.goto 4, 3) := by decide +kernel
theorem dX8_pane_44 : decode cX8_pane 44 = .ok (.iconst 1, 1) := by decide +kernel
theorem dX8_pane_45 : decode cX8_pane 45 = .ok (.invokevirtual 86, 3) := by decide +kernel
theorem dX8_pane_48 : decode cX8_pane 48 = .ok (.ireturn, 1) := by decide +kernel
theorem dX8_pane_49 : decode cX8_pane 49 = .ok (.aload_n 0, 1) := by decide +kernel
theorem dX8_pane_50 : decode cX8_pane 50 = .ok (.getfield 12, 3) := by decide +kernel
theorem dX8_pane_53 : decode cX8_pane 53 = .ok (.getfield 97, 3) := by decide +kernel
theorem dX8_pane_56 : decode cX8_pane 56 = .ok (.iload_n 1, 1) := by decide +kernel
theorem dX8_pane_57 : decode cX8_pane 57 = .ok (.invokevirtual 137, 3) := by decide +kernel
theorem dX8_pane_60 : decode cX8_pane 60 = .ok (.istore_n 3, 1) := by decide +kernel
theorem dX8_pane_61 : decode cX8_pane 61 = .ok (.iload_n 2, 1) := by decide +kernel
theorem dX8_pane_62 : decode cX8_pane 62 = .ok (.iconst 2, 1) := by decide +kernel
theorem dX8_pane_63 : decode cX8_pane 63 = .ok (.if_icmp .ne 5, 3) := by decide +kernel
theorem dX8_pane_66 : decode cX8_pane 66 = .ok (.iload_n 3, 1) := by decide +kernel
theorem dX8_pane_67 : decode cX8_pane 67 = .ok (.ireturn, 1) := by decide +kernel
theorem dX8_pane_68 : decode cX8_pane 68 = .ok (.iload_n 3, 1) := by decide +kernel
theorem dX8_pane_69 : decode cX8_pane 69 = .ok (.ifCond .ne 7, 3) := by decide +kernel
theorem dX8_pane_72 : decode cX8_pane 72 = .ok (.iconst (-1), 1) := by decide +kernel
theorem dX8_pane_73 : decode cX8_pane 73 = .ok (.goto 20, 3) := by decide +kernel
theorem dX8_pane_76 : decode cX8_pane 76 = .ok (.aload_n 0, 1) := by decide +kernel
theorem dX8_pane_77 : decode cX8_pane 77 = .ok (.iload_n 1, 1) := by decide +kernel
theorem dX8_pane_78 : decode cX8_pane 78 = .ok (.aload_n 0, 1) := by decide +kernel
theorem dX8_pane_79 : decode cX8_pane 79 = .ok (.getfield 12, 3) := by decide +kernel
theorem dX8_pane_82 : decode cX8_pane 82 = .ok (.getfield 97, 3) := by decide +kernel
theorem dX8_pane_85 : decode cX8_pane 85 = .ok (.iload_n 1, 1) := by decide +kernel
theorem dX8_pane_86 : decode cX8_pane 86 = .ok (.invokevirtual 103, 3) := by decide +kernel
theorem dX8_pane_89 : decode cX8_pane 89 = .ok (.iload_n 2, 1) := by decide +kernel
theorem dX8_pane_90 : decode cX8_pane 90 = .ok (.invokevirtual 203, 3) := by decide +kernel
theorem dX8_pane_93 : decode cX8_pane 93 = .ok (.ireturn, 1) := by decide +kernel
theorem hin_X8_pane_X8 : ∀ w ∈ wsX80, w ∈ wsX8_pane := by decide +kernel
theorem lk_X8_pane_12 : Cond.fieldLink RX8 12 RX8 "now" "LDockTree$State;" ∈ wsX8_pane := by decide +kernel
theorem hin_X8_pane_X7 : ∀ w ∈ wsX70, w ∈ wsX8_pane := by decide +kernel
theorem k_pane (hG : GP G) (hD : DoS S a c h t p b q) (hW : Wo mu c h t p) {x w : Int} (hx : -2147483648 ≤ x ∧ x ≤ 2147483647) (hw : -2147483648 ≤ w ∧ w ≤ 2147483647) (hf : ppF mu c x w = 0) : Ct G l yX8_pane wsX8_pane 4 0 0 [.ref a, .int (I32 x), .int (I32 w)] S n mu la (Dt (some (.int (I32 (paF mu c p x w)))) S n mu la) := by
  have o8 := hD.1
  have o7 := hD.2.1.1
  have o4 := hD.2.1.2.2.1.1
  obtain ⟨f1, f2, f3, f4⟩ := ppF_0 hf hW.2.2.1.2
  have b2 := stt_b (lay mu (c + 2)) x
  refine Ct.ofV (cc := cX8_pane) (nL := 4) (ret := (some .int)) [some (.ref a), some (.int (I32 x)), some (.int (I32 w)), none] hG (by decide) rfl (Nat.le_of_ble_eq_true rfl) rfl ?_
  rintro X rfl rfl C hcl hsl E
  refine V_aload_n C dX8_pane_0 rfl ?_
  refine V_iload_n C dX8_pane_1 rfl ?_
  refine V_callVD (nA := 1) C dX8_pane_2 (k_isPane C.gp hD hW hx) gX8_pane_X8_isPane rfl o8 rfl (by decide +kernel) rfl (by decide) (by decide) (Nat.le_of_ble_eq_true rfl) ⟨by omega, by omega⟩ rfl ?_
  refine V_if_eq C 18 dX8_pane_5 (by decide) (by omega) (fun z5 => ?_) (fun z5 => ?_)
  · exact absurd z5 (by first | omega | decide)
  · refine V_iload_n C dX8_pane_8 rfl ?_
    refine V_iconst C dX8_pane_9 ?_
    refine V_bipush C dX8_pane_10 (by decide +kernel) ?_
    refine V_callSD (nA := 3) C dX8_pane_12 (k_faultOfRange C.gp hw (by omega) (by omega)) gX8_pane_X8_faultOfRange rfl (by decide +kernel) rfl (by decide) (by decide) (Nat.le_of_ble_eq_true rfl) ⟨by omega, by omega⟩ rfl ?_
    rw [f4]
    refine V_goto C 19 dX8_pane_15 (by decide) ?_
    refine V_callSD (nA := 1) C dX8_pane_19 (c_throwIf0 C.gp) gX8_pane_X8_throwIf rfl (by decide +kernel) rfl (by decide) (by decide) (Nat.le_of_ble_eq_true rfl) ⟨by omega, by omega⟩ rfl ?_
    refine V_iload_n C dX8_pane_22 rfl ?_
    refine V_if_eq C 31 dX8_pane_23 (by decide) (by omega) (fun z23 => ?_) (fun z23 => ?_)
    · refine V_aload_n C dX8_pane_31 rfl ?_
      refine V_getR C 0 dX8_pane_32 o8 rfl hin_X8_pane_X8 (by decide) lk_X8_pane_12 rfl rfl ?_
      refine V_iload_n C dX8_pane_35 rfl ?_
      refine V_iload_n C dX8_pane_36 rfl ?_
      refine V_if_ne C 44 dX8_pane_37 (by decide) (by omega) (fun z37 => ?_) (fun z37 => ?_)
      · refine V_iconst C dX8_pane_44 ?_
        refine V_callVD (nA := 2) C dX8_pane_45 (c_stLeast C.gp hD.2.1) gX8_pane_X7_leastOf rfl o7 rfl (by decide +kernel) rfl (by decide) (by decide) (Nat.le_of_ble_eq_true rfl) ⟨by omega, by omega⟩ rfl ?_
        refine V_ireturn C E dX8_pane_48 (by omega) (by omega) ?_
        exact Dt_int (by unfold paF; (repeat' split) <;> first | rfl | omega | (subst w; rfl))
      · refine V_iconst C dX8_pane_40 ?_
        refine V_goto C 45 dX8_pane_41 (by decide) ?_
        refine V_callVD (nA := 2) C dX8_pane_45 (c_stLeast C.gp hD.2.1) gX8_pane_X7_leastOf rfl o7 rfl (by decide +kernel) rfl (by decide) (by decide) (Nat.le_of_ble_eq_true rfl) ⟨by omega, by omega⟩ rfl ?_
        refine V_ireturn C E dX8_pane_48 (by omega) (by omega) ?_
        exact Dt_int (by unfold paF; (repeat' split) <;> first | rfl | omega | (subst w; rfl))
    · refine V_iload_n C dX8_pane_26 rfl ?_
      refine V_iconst C dX8_pane_27 ?_
      refine V_icmp_ne C 49 dX8_pane_28 (by decide) (by omega) (by omega) (fun z28 => ?_) (fun z28 => ?_)
      · refine V_aload_n C dX8_pane_49 rfl ?_
        refine V_getR C 0 dX8_pane_50 o8 rfl hin_X8_pane_X8 (by decide) lk_X8_pane_12 rfl rfl ?_
        refine V_getNR C 4 (host := "DockTree") dX8_pane_53 o7 rfl hin_X8_pane_X7 (by decide) (by decide +kernel) rfl rfl ?_
        refine V_iload_n C dX8_pane_56 rfl ?_
        refine V_callVD (nA := 1) C dX8_pane_57 (w_stateOf C.gp hD.2.1.2.2.1 hW.2.1 (by omega)) gX8_pane_X4_stateOf rfl o4 rfl (by decide +kernel) rfl (by decide) (by decide) (Nat.le_of_ble_eq_true rfl) ⟨by omega, by omega⟩ rfl ?_
        refine V_istore_n C dX8_pane_60 rfl (by decide) ?_
        refine V_iload_n C dX8_pane_61 rfl ?_
        refine V_iconst C dX8_pane_62 ?_
        refine V_icmp_ne C 68 dX8_pane_63 (by decide) (by omega) (by omega) (fun z63 => ?_) (fun z63 => ?_)
        · refine V_iload_n C dX8_pane_68 rfl ?_
          refine V_if_ne C 76 dX8_pane_69 (by decide) (by omega) (fun z69 => ?_) (fun z69 => ?_)
          · refine V_aload_n C dX8_pane_76 rfl ?_
            refine V_iload_n C dX8_pane_77 rfl ?_
            refine V_aload_n C dX8_pane_78 rfl ?_
            refine V_getR C 0 dX8_pane_79 o8 rfl hin_X8_pane_X8 (by decide) lk_X8_pane_12 rfl rfl ?_
            refine V_getNR C 4 (host := "DockTree") dX8_pane_82 o7 rfl hin_X8_pane_X7 (by decide) (by decide +kernel) rfl rfl ?_
            refine V_iload_n C dX8_pane_85 rfl ?_
            refine V_callVD (nA := 1) C dX8_pane_86 (w_holderOf C.gp hD.2.1.2.2.1) gX8_pane_X4_holderOf rfl o4 rfl (by decide +kernel) rfl (by decide) (by decide) (Nat.le_of_ble_eq_true rfl) ⟨by omega, by omega⟩ rfl ?_
            refine V_iload_n C dX8_pane_89 rfl ?_
            refine V_callVD (nA := 3) C dX8_pane_90 (k_valueInGroup C.gp hD hW hx (by omega)) gX8_pane_X8_valueInGroup rfl o8 rfl (by decide +kernel) rfl (by decide) (by decide) (Nat.le_of_ble_eq_true rfl) ⟨by omega, by omega⟩ rfl ?_
            refine V_ireturn C E dX8_pane_93 (by omega) (by omega) ?_
            exact Dt_int (by unfold paF; (repeat' split) <;> first | rfl | omega | (subst w; rfl))
          · refine V_iconst C dX8_pane_72 ?_
            refine V_goto C 93 dX8_pane_73 (by decide) ?_
            refine V_ireturn C E dX8_pane_93 (by omega) (by omega) ?_
            exact Dt_int (by unfold paF; (repeat' split) <;> first | rfl | omega | (subst w; rfl))
        · refine V_iload_n C dX8_pane_66 rfl ?_
          refine V_ireturn C E dX8_pane_67 (by omega) (by omega) ?_
          exact Dt_int (by unfold paF; (repeat' split) <;> first | rfl | omega | (subst w; rfl))
      · refine V_aload_n C dX8_pane_31 rfl ?_
        refine V_getR C 0 dX8_pane_32 o8 rfl hin_X8_pane_X8 (by decide) lk_X8_pane_12 rfl rfl ?_
        refine V_iload_n C dX8_pane_35 rfl ?_
        refine V_iload_n C dX8_pane_36 rfl ?_
        refine V_if_ne C 44 dX8_pane_37 (by decide) (by omega) (fun z37 => ?_) (fun z37 => ?_)
        · refine V_iconst C dX8_pane_44 ?_
          refine V_callVD (nA := 2) C dX8_pane_45 (c_stLeast C.gp hD.2.1) gX8_pane_X7_leastOf rfl o7 rfl (by decide +kernel) rfl (by decide) (by decide) (Nat.le_of_ble_eq_true rfl) ⟨by omega, by omega⟩ rfl ?_
          refine V_ireturn C E dX8_pane_48 (by omega) (by omega) ?_
          exact Dt_int (by unfold paF; (repeat' split) <;> first | rfl | omega | (subst w; rfl))
        · refine V_iconst C dX8_pane_40 ?_
          refine V_goto C 45 dX8_pane_41 (by decide) ?_
          refine V_callVD (nA := 2) C dX8_pane_45 (c_stLeast C.gp hD.2.1) gX8_pane_X7_leastOf rfl o7 rfl (by decide +kernel) rfl (by decide) (by decide) (Nat.le_of_ble_eq_true rfl) ⟨by omega, by omega⟩ rfl ?_
          refine V_ireturn C E dX8_pane_48 (by omega) (by omega) ?_
          exact Dt_int (by unfold paF; (repeat' split) <;> first | rfl | omega | (subst w; rfl))
-- X8_pane
theorem x_pane (hG : GP G) (hGX : GX G) (hl9 : l.stackTraces = false) (hD : DoS S a c h t p b q) (hW : Wo mu c h t p) {x w : Int} (hx : -2147483648 ≤ x ∧ x ≤ 2147483647) (hw : -2147483648 ≤ w ∧ w ≤ 2147483647) (hf : ppF mu c x w = 1 ∨ ppF mu c x w = 2 ∨ ppF mu c x w = 3) : CtX G l yX8_pane wsX8_pane 7 [.ref a, .int (I32 x), .int (I32 w)] S n mu la (exn (ppF mu c x w)) := by
  have o8 := hD.1
  have b1 := pnF_b mu c x
  refine CtX.ofV (cc := cX8_pane) (nL := 4) (ret := (some .int)) [some (.ref a), some (.int (I32 x)), some (.int (I32 w)), none] hG (by decide) rfl (Nat.le_of_ble_eq_true rfl) rfl ?_
  rintro X rfl rfl C hcl hsl hnt E
  refine V_aload_n C dX8_pane_0 rfl ?_
  refine V_iload_n C dX8_pane_1 rfl ?_
  refine V_callVD (nA := 1) C dX8_pane_2 (k_isPane C.gp hD hW hx) gX8_pane_X8_isPane rfl o8 rfl (by decide +kernel) rfl (by decide) (by decide) (Nat.le_of_ble_eq_true rfl) ⟨by omega, by omega⟩ rfl ?_
  refine V_if_eq C 18 dX8_pane_5 (by decide) (by omega) (fun z5 => ?_) (fun z5 => ?_)
  · refine V_iconst C dX8_pane_18 ?_
    first | (rw [ppF, if_pos (show pnF mu c x = 1 by omega)] at hf E ; exact V_callSX (nA := 1) C hcl hsl hnt E dX8_pane_19 (c_throwIfX C.gp hGX hl9 hf) gX8_pane_X8_throwIf rfl (by decide +kernel) rfl (by omega) (by decide) (Nat.le_of_ble_eq_true rfl) rfl) | (rw [ppF, if_neg (show ¬ pnF mu c x = 1 by omega)] at hf E ; exact V_callSX (nA := 1) C hcl hsl hnt E dX8_pane_19 (c_throwIfX C.gp hGX hl9 hf) gX8_pane_X8_throwIf rfl (by decide +kernel) rfl (by omega) (by decide) (Nat.le_of_ble_eq_true rfl) rfl)
  · refine V_iload_n C dX8_pane_8 rfl ?_
    refine V_iconst C dX8_pane_9 ?_
    refine V_bipush C dX8_pane_10 (by decide +kernel) ?_
    refine V_callSD (nA := 3) C dX8_pane_12 (k_faultOfRange C.gp hw (by omega) (by omega)) gX8_pane_X8_faultOfRange rfl (by decide +kernel) rfl (by decide) (by decide) (Nat.le_of_ble_eq_true rfl) ⟨by omega, by omega⟩ rfl ?_
    refine V_goto C 19 dX8_pane_15 (by decide) ?_
    first | (rw [ppF, if_pos (show pnF mu c x = 1 by omega)] at hf E ; exact V_callSX (nA := 1) C hcl hsl hnt E dX8_pane_19 (c_throwIfX C.gp hGX hl9 hf) gX8_pane_X8_throwIf rfl (by decide +kernel) rfl (by omega) (by decide) (Nat.le_of_ble_eq_true rfl) rfl) | (rw [ppF, if_neg (show ¬ pnF mu c x = 1 by omega)] at hf E ; exact V_callSX (nA := 1) C hcl hsl hnt E dX8_pane_19 (c_throwIfX C.gp hGX hl9 hf) gX8_pane_X8_throwIf rfl (by decide +kernel) rfl (by omega) (by decide) (Nat.le_of_ble_eq_true rfl) rfl)
set_option maxRecDepth 20000 in
theorem ggX8_split_X8_isPane : GoodIn wsX8_split wsX8_isPane := goodIn_r _ [6, 1, 69, 70, 71, 72, 73, 74, 75, 76, 77, 78, 79, 80, 81] (by decide +kernel) (by decide +kernel)
set_option maxRecDepth 20000 in
theorem gX8_split_X8_isPane : GoodIn wsX8_split (wsV RX8 79 RX8 yX8_isPane wsX8_isPane) := goodIn_app (goodIn_of _ (by decide +kernel)) ggX8_split_X8_isPane
set_option maxRecDepth 20000 in
theorem ggX8_split_X8_faultOfSplitValue : GoodIn wsX8_split wsX8_faultOfSplitValue := goodIn_r _ [9, 10, 11, 5, 12] (by decide +kernel) (by decide +kernel)
set_option maxRecDepth 20000 in
theorem gX8_split_X8_faultOfSplitValue : GoodIn wsX8_split (va_wsS RX8 206 yX8_faultOfSplitValue wsX8_faultOfSplitValue) := goodIn_app (goodIn_of _ (by decide +kernel)) ggX8_split_X8_faultOfSplitValue
set_option maxRecDepth 20000 in
theorem ggX8_split_X8_throwIf : GoodIn wsX8_split wsX8_throwIf := goodIn_ca (goodIn_ca (goodIn_ca (goodIn_r _ [15, 16, 17, 18, 19, 20, 21] (by decide +kernel) (by decide +kernel)) (goodIn_sub (fun _ h => List.mem_cons_of_mem _ (List.mem_append_left _ (List.mem_append_left _ (List.mem_append_right _ h)))) (by decide +kernel))) (goodIn_sub (fun _ h => List.mem_cons_of_mem _ (List.mem_append_left _ (List.mem_append_right _ h))) (by decide +kernel))) (goodIn_sub (fun _ h => List.mem_cons_of_mem _ (List.mem_append_right _ h)) (by decide +kernel))
set_option maxRecDepth 20000 in
theorem gX8_split_X8_throwIf : GoodIn wsX8_split (va_wsS RX8 51 yX8_throwIf wsX8_throwIf) := goodIn_app (goodIn_of _ (by decide +kernel)) ggX8_split_X8_throwIf
set_option maxRecDepth 20000 in
theorem ggX8_split_X4_holderOf : GoodIn wsX8_split wsX4_holderOf := goodIn_r _ [26, 27, 28, 5, 29, 82, 83, 84, 85, 86, 87, 88, 89] (by decide +kernel) (by decide +kernel)
set_option maxRecDepth 20000 in
theorem gX8_split_X4_holderOf : GoodIn wsX8_split (wsV RX8 103 RX4 yX4_holderOf wsX4_holderOf) := goodIn_app (goodIn_of _ (by decide +kernel)) ggX8_split_X4_holderOf
set_option maxRecDepth 20000 in
theorem ggX8_split_X8_isSplit : GoodIn wsX8_split wsX8_isSplit := goodIn_r _ [32] (by decide +kernel) (by decide +kernel)
set_option maxRecDepth 20000 in
theorem gX8_split_X8_isSplit : GoodIn wsX8_split (va_wsS RX8 209 yX8_isSplit wsX8_isSplit) := goodIn_app (goodIn_of _ (by decide +kernel)) ggX8_split_X8_isSplit
set_option maxRecDepth 20000 in
theorem ggX8_split_X8_valueOfSplit : GoodIn wsX8_split wsX8_valueOfSplit := goodIn_r _ [36, 1, 37, 38, 39, 40, 25, 41, 42, 28, 5, 29, 43, 44, 45, 46, 47, 48, 49, 50, 51, 52, 53, 54, 55, 56, 57, 58, 59, 60, 61, 62, 63, 64, 65, 66, 67, 68, 69, 70, 71, 72, 73, 74, 75, 76, 77, 78, 79, 80, 81, 82, 83, 84, 85, 86, 87, 88, 89, 90, 91, 92, 93, 94, 95, 96, 97, 98, 99, 100, 101, 102] (by decide +kernel) (by decide +kernel)
set_option maxRecDepth 20000 in
theorem gX8_split_X8_valueOfSplit : GoodIn wsX8_split (wsV RX8 212 RX8 yX8_valueOfSplit wsX8_valueOfSplit) := goodIn_app (goodIn_of _ (by decide +kernel)) ggX8_split_X8_valueOfSplit
theorem dX8_split_0 : decode cX8_split 0 = .ok (.aload_n 0, 1) := by decide +kernel
theorem dX8_split_1 : decode cX8_split 1 = .ok (.iload_n 1, 1) := by decide +kernel
theorem dX8_split_2 : decode cX8_split 2 = .ok (.invokevirtual 79, 3) := by decide +kernel
theorem dX8_split_5 : decode cX8_split 5 = .ok (.ifCond .eq 11, 3) := by decide +kernel
theorem dX8_split_8 : decode cX8_split 8 = .ok (.iload_n 2, 1) := by decide +kernel
theorem dX8_split_9 : decode cX8_split 9 = .ok (.iload_n 3, 1) := by decide +kernel
theorem dX8_split_10 : decode cX8_split 10 = .ok (.invokestatic 206, 3) := by decide +kernel
theorem dX8_split_13 : decode cX8_split 13 = .ok (.goto 4, 3) := by decide +kernel
theorem dX8_split_16 : decode cX8_split 16 = .ok (.iconst 1, 1) := by decide +kernel
theorem dX8_split_17 : decode cX8_split 17 = .ok (.invokestatic 51, 3) := by decide +kernel
theorem dX8_split_20 : decode cX8_split 20 = .ok (.aload_n 0, 1) := by decide +kernel
theorem dX8_split_21 : decode cX8_split 21 = .ok (.getfield 12, 3) := by decide +kernel
theorem dX8_split_24 : decode cX8_split 24 = .ok (.getfield 97, 3) := by decide +kernel
theorem dX8_split_27 : decode cX8_split 27 = .ok (.iload_n 1, 1) := by decide +kernel
theorem dX8_split_28 : decode cX8_split 28 = .ok (.invokevirtual 103, 3) := by decide +kernel
theorem dX8_split_31 : decode cX8_split 31 = .ok (.istore 4, 2) := by decide +kernel
theorem dX8_split_33 : decode cX8_split 33 = .ok (.aload_n 0, 1) := by decide +kernel
theorem dX8_split_34 : decode cX8_split 34 = .ok (.getfield 12, 3) := by decide +kernel
theorem dX8_split_37 : decode cX8_split 37 = .ok (.getfield 97, 3) := by decide +kernel
theorem dX8_split_40 : decode cX8_split 40 = .ok (.iload 4, 2) := by decide +kernel
theorem dX8_split_42 : decode cX8_split 42 = .ok (.invokevirtual 103, 3) := by decide +kernel
theorem dX8_split_45 : decode cX8_split 45 = .ok (.istore 5, 2) := by decide +kernel
theorem dX8_split_47 : decode cX8_split 47 = .ok (.iconst 0, 1) := by decide +kernel
theorem dX8_split_48 : decode cX8_split 48 = .ok (.istore 6, 2) := by decide +kernel
theorem dX8_split_50 : decode cX8_split 50 = .ok (.iload 6, 2) := by decide +kernel
theorem dX8_split_52 : decode cX8_split 52 = .ok (.iload_n 2, 1) := by decide +kernel
theorem dX8_split_53 : decode cX8_split 53 = .ok (.if_icmp .ge 35, 3) := by decide +kernel
theorem dX8_split_56 : decode cX8_split 56 = .ok (.iload 5, 2) := by decide +kernel
theorem dX8_split_58 : decode cX8_split 58 = .ok (.invokestatic 209, 3) := by decide +kernel
theorem dX8_split_61 : decode cX8_split 61 = .ok (.ifCond .eq 27, 3) := by decide +kernel
theorem dX8_split_64 : decode cX8_split 64 = .ok (.iload 5, 2) := by decide +kernel
theorem dX8_split_66 : decode cX8_split 66 = .ok (.istore 4, 2) := by decide +kernel
theorem dX8_split_68 : decode cX8_split 68 = .ok (.aload_n 0, 1) := by decide +kernel
theorem dX8_split_69 : decode cX8_split 69 = .ok (.getfield 12, 3) := by decide +kernel
theorem dX8_split_72 : decode cX8_split 72 = .ok (.getfield 97, 3) := by decide +kernel
theorem dX8_split_75 : decode cX8_split 75 = .ok (.iload 4, 2) := by decide +kernel
theorem dX8_split_77 : decode cX8_split 77 = .ok (.invokevirtual 103, 3) := by decide +kernel
theorem dX8_split_80 : decode cX8_split 80 = .ok (.istore 5, 2) := by decide +kernel
theorem dX8_split_82 : decode cX8_split 82 = .ok (.iinc 6 1, 3) := by decide +kernel
theorem dX8_split_85 : decode cX8_split 85 = .ok (.goto (-35), 3) := by decide +kernel
theorem dX8_split_88 : decode cX8_split 88 = .ok (.iload 5, 2) := by decide +kernel
theorem dX8_split_90 : decode cX8_split 90 = .ok (.invokestatic 209, 3) := by decide +kernel
theorem dX8_split_93 : decode cX8_split 93 = .ok (.ifCond .eq 15, 3) := by decide +kernel
theorem dX8_split_96 : decode cX8_split 96 = .ok (.aload_n 0, 1) := by decide +kernel
theorem dX8_split_97 : decode cX8_split 97 = .ok (.iload 5, 2) := by decide +kernel
theorem dX8_split_99 : decode cX8_split 99 = .ok (.iload 4, 2) := by decide +kernel
theorem dX8_split_101 : decode cX8_split 101 = .ok (.iload_n 3, 1) := by decide +kernel
theorem dX8_split_102 : decode cX8_split 102 = .ok (.invokevirtual 212, 3) := by decide +kernel
theorem dX8_split_105 : decode cX8_split 105 = .ok (.goto 4, 3) := by decide +kernel
theorem dX8_split_108 : decode cX8_split 108 = .ok (.iconst (-1), 1) := by decide +kernel
theorem dX8_split_109 : decode cX8_split 109 = .ok (.ireturn, 1) := by decide +kernel
theorem hin_X8_split_X8 : ∀ w ∈ wsX80, w ∈ wsX8_split := by decide +kernel
theorem lk_X8_split_12 : Cond.fieldLink RX8 12 RX8 "now" "LDockTree$State;" ∈ wsX8_split := by decide +kernel
theorem hin_X8_split_X7 : ∀ w ∈ wsX70, w ∈ wsX8_split := by decide +kernel
theorem k_split (hG : GP G) (hD : DoS S a c h t p b q) (hW : Wo mu c h t p) {x v w : Int} (hx : -2147483648 ≤ x ∧ x ≤ 2147483647) (hv : -2147483648 ≤ v ∧ v ≤ 2147483647) (hw : -2147483648 ≤ w ∧ w ≤ 2147483647) (hf : fspF mu c x v w = 0) : Ct G l yX8_split wsX8_split 4 0 0 [.ref a, .int (I32 x), .int (I32 v), .int (I32 w)] S n mu la (Dt (some (.int (I32 (spvF (lay mu (c + 2)) (pl mu p) x v w)))) S n mu la) := by
  have o8 := hD.1
  have o7 := hD.2.1.1
  have o4 := hD.2.1.2.2.1.1
  obtain ⟨f1, f2, f3, f4⟩ := fspF_0 hf hW.2.2.1.2
  have hL := hD.2.1.2.2.1
  have bb := fun y => gL_bd hW.2.1 (by omega) 0 y
  unfold spvF
  generalize eR : upG (lay mu (c + 2)) v.toNat (gL (lay mu (c + 2)) 0 x) (gL (lay mu (c + 2)) 0 (gL (lay mu (c + 2)) 0 x)) = R
  refine Ct.ofV (cc := cX8_split) (nL := 7) (ret := (some .int)) [some (.ref a), some (.int (I32 x)), some (.int (I32 v)), some (.int (I32 w)), none, none, none] hG (by decide) rfl (Nat.le_of_ble_eq_true rfl) rfl ?_
  rintro X rfl rfl C hcl hsl E
  have fin : ∀ (k : Int), V X 88 [some (.ref a), some (.int (I32 x)), some (.int (I32 v)), some (.int (I32 w)), some (.int (I32 R.1)), some (.int (I32 R.2)), some (.int (I32 k))] [] S n mu la 0 0 → V X 88 [some (.ref a), some (.int (I32 x)), some (.int (I32 v)), some (.int (I32 w)), some (.int (I32 R.1)), some (.int (I32 R.2)), some (.int (I32 k))] [] S n mu la 0 0 := fun _ y => y
  have loop : ∀ (d : Nat) (k u s : Int), 0 ≤ k → k + d = v → -16000000 ≤ s ∧ s ≤ 16000000 → upG (lay mu (c + 2)) d u s = R → V X 50 [some (.ref a), some (.int (I32 x)), some (.int (I32 v)), some (.int (I32 w)), some (.int (I32 u)), some (.int (I32 s)), some (.int (I32 k))] [] S n mu la 0 0 := by
    intro d
    induction d with
    | zero =>
      intro k u s hk hd hs hr
      have hR : R = (u, s) := hr.symm
      have bs := spF_b s
      subst hR
      refine V_iload C dX8_split_50 rfl ?_
      refine V_iload_n C dX8_split_52 rfl ?_
      refine V_icmp_ge C 88 dX8_split_53 (by decide) (by omega) (by omega) (fun z53 => ?_) (fun z53 => ?_)
      · refine V_iload C dX8_split_88 rfl ?_
        refine V_callSD (nA := 1) C dX8_split_90 (c_isSplit C.gp (by omega)) gX8_split_X8_isSplit rfl (by decide +kernel) rfl (by decide) (by decide) (Nat.le_of_ble_eq_true rfl) ⟨by omega, by omega⟩ rfl ?_
        refine V_if_eq C 108 dX8_split_93 (by decide) (by omega) (fun z93 => ?_) (fun z93 => ?_)
        · refine V_iconst C dX8_split_108 ?_
          refine V_ireturn C E dX8_split_109 (by omega) (by omega) ?_
          exact Dt_int (by dsimp only; (repeat' split) <;> first | rfl | omega)
        · refine V_aload_n C dX8_split_96 rfl ?_
          refine V_iload C dX8_split_97 rfl ?_
          refine V_iload C dX8_split_99 rfl ?_
          refine V_iload_n C dX8_split_101 rfl ?_
          refine V_callVD (nA := 3) C dX8_split_102 (k_valueOfSplit C.gp hD hW (by omega)) gX8_split_X8_valueOfSplit rfl o8 rfl (by decide +kernel) rfl (by decide) (by decide) (Nat.le_of_ble_eq_true rfl) ⟨by omega, by omega⟩ rfl ?_
          refine V_goto C 109 dX8_split_105 (by decide) ?_
          refine V_ireturn C E dX8_split_109 (by omega) (by omega) ?_
          exact Dt_int (by dsimp only; (repeat' split) <;> first | rfl | omega)
      · exact absurd z53 (by first | omega | decide)
    | succ d ih =>
      intro k u s hk hd hs hr
      have bs := spF_b s
      rw [upG] at hr
      have h8 := ih (k + 1) s (gL (lay mu (c + 2)) 0 s) (by omega) (by omega) (bb s)
      refine V_iload C dX8_split_50 rfl ?_
      refine V_iload_n C dX8_split_52 rfl ?_
      refine V_icmp_ge C 88 dX8_split_53 (by decide) (by omega) (by omega) (fun z => ?_) (fun z => ?_)
      · exact absurd z (by omega)
      · refine V_iload C dX8_split_56 rfl ?_
        refine V_callSD (nA := 1) C dX8_split_58 (c_isSplit C.gp (by omega)) gX8_split_X8_isSplit rfl (by decide +kernel) rfl (by decide) (by decide) (Nat.le_of_ble_eq_true rfl) ⟨by omega, by omega⟩ rfl ?_
        refine V_if_eq C 88 dX8_split_61 (by decide) (by omega) (fun z2 => ?_) (fun z2 => ?_)
        · rw [if_neg (by omega)] at hr
          have hR : R = (u, s) := hr.symm
          subst hR
          refine V_iload C dX8_split_88 rfl ?_
          refine V_callSD (nA := 1) C dX8_split_90 (c_isSplit C.gp (by omega)) gX8_split_X8_isSplit rfl (by decide +kernel) rfl (by decide) (by decide) (Nat.le_of_ble_eq_true rfl) ⟨by omega, by omega⟩ rfl ?_
          refine V_if_eq C 108 dX8_split_93 (by decide) (by omega) (fun z3 => ?_) (fun z3 => ?_)
          · refine V_iconst C dX8_split_108 ?_
            refine V_ireturn C E dX8_split_109 (by omega) (by omega) ?_
            exact Dt_int (by dsimp only; rw [if_neg (by omega)])
          · exact absurd z2 z3
        · rw [if_pos (by omega)] at hr
          refine V_iload C dX8_split_64 rfl ?_
          refine V_istore C dX8_split_66 rfl (by decide) ?_
          refine V_aload_n C dX8_split_68 rfl ?_
          refine V_getR C 0 dX8_split_69 o8 rfl hin_X8_split_X8 (by decide) lk_X8_split_12 rfl rfl ?_
          refine V_getNR C 4 (host := "DockTree") dX8_split_72 o7 rfl hin_X8_split_X7 (by decide) (by decide +kernel) rfl rfl ?_
          refine V_iload C dX8_split_75 rfl ?_
          refine V_callVD (nA := 1) C dX8_split_77 (w_holderOf C.gp hL) gX8_split_X4_holderOf rfl o4 rfl (by decide +kernel) rfl (by decide) (by decide) (Nat.le_of_ble_eq_true rfl) ⟨by omega, by omega⟩ rfl ?_
          refine V_istore C dX8_split_80 rfl (by decide) ?_
          refine V_iinc C dX8_split_82 rfl rfl (by decide) ?_
          refine V_goto C 50 dX8_split_85 (by decide) ?_
          exact h8 hr
  refine V_aload_n C dX8_split_0 rfl ?_
  refine V_iload_n C dX8_split_1 rfl ?_
  refine V_callVD (nA := 1) C dX8_split_2 (k_isPane C.gp hD hW hx) gX8_split_X8_isPane rfl o8 rfl (by decide +kernel) rfl (by decide) (by decide) (Nat.le_of_ble_eq_true rfl) ⟨by omega, by omega⟩ rfl ?_
  refine V_if_eq C 16 dX8_split_5 (by decide) (by omega) (fun z5 => ?_) (fun z5 => ?_)
  · exact absurd z5 (by first | omega | decide)
  · refine V_iload_n C dX8_split_8 rfl ?_
    refine V_iload_n C dX8_split_9 rfl ?_
    refine V_callSD (nA := 2) C dX8_split_10 (k_faultOfSplitValue C.gp hv hw) gX8_split_X8_faultOfSplitValue rfl (by decide +kernel) rfl (by decide) (by decide) (Nat.le_of_ble_eq_true rfl) ⟨by omega, by omega⟩ rfl ?_
    rw [f4]
    refine V_goto C 17 dX8_split_13 (by decide) ?_
    refine V_callSD (nA := 1) C dX8_split_17 (c_throwIf0 C.gp) gX8_split_X8_throwIf rfl (by decide +kernel) rfl (by decide) (by decide) (Nat.le_of_ble_eq_true rfl) ⟨by omega, by omega⟩ rfl ?_
    refine V_aload_n C dX8_split_20 rfl ?_
    refine V_getR C 0 dX8_split_21 o8 rfl hin_X8_split_X8 (by decide) lk_X8_split_12 rfl rfl ?_
    refine V_getNR C 4 (host := "DockTree") dX8_split_24 o7 rfl hin_X8_split_X7 (by decide) (by decide +kernel) rfl rfl ?_
    refine V_iload_n C dX8_split_27 rfl ?_
    refine V_callVD (nA := 1) C dX8_split_28 (w_holderOf C.gp hL) gX8_split_X4_holderOf rfl o4 rfl (by decide +kernel) rfl (by decide) (by decide) (Nat.le_of_ble_eq_true rfl) ⟨by omega, by omega⟩ rfl ?_
    refine V_istore C dX8_split_31 rfl (by decide) ?_
    refine V_aload_n C dX8_split_33 rfl ?_
    refine V_getR C 0 dX8_split_34 o8 rfl hin_X8_split_X8 (by decide) lk_X8_split_12 rfl rfl ?_
    refine V_getNR C 4 (host := "DockTree") dX8_split_37 o7 rfl hin_X8_split_X7 (by decide) (by decide +kernel) rfl rfl ?_
    refine V_iload C dX8_split_40 rfl ?_
    refine V_callVD (nA := 1) C dX8_split_42 (w_holderOf C.gp hL) gX8_split_X4_holderOf rfl o4 rfl (by decide +kernel) rfl (by decide) (by decide) (Nat.le_of_ble_eq_true rfl) ⟨by omega, by omega⟩ rfl ?_
    refine V_istore C dX8_split_45 rfl (by decide) ?_
    refine V_iconst C dX8_split_47 ?_
    refine V_istore C dX8_split_48 rfl (by decide) ?_
    exact loop v.toNat 0 _ _ (by omega) (by omega) (bb _) eR
-- X8_split
theorem x_split (hG : GP G) (hGX : GX G) (hl9 : l.stackTraces = false) (hD : DoS S a c h t p b q) (hW : Wo mu c h t p) {x v w : Int} (hx : -2147483648 ≤ x ∧ x ≤ 2147483647) (hv : -2147483648 ≤ v ∧ v ≤ 2147483647) (hw : -2147483648 ≤ w ∧ w ≤ 2147483647) (hf : fspF mu c x v w = 1 ∨ fspF mu c x v w = 2 ∨ fspF mu c x v w = 3) : CtX G l yX8_split wsX8_split 7 [.ref a, .int (I32 x), .int (I32 v), .int (I32 w)] S n mu la (exn (fspF mu c x v w)) := by
  have o8 := hD.1
  have b1 := pnF_b mu c x
  refine CtX.ofV (cc := cX8_split) (nL := 7) (ret := (some .int)) [some (.ref a), some (.int (I32 x)), some (.int (I32 v)), some (.int (I32 w)), none, none, none] hG (by decide) rfl (Nat.le_of_ble_eq_true rfl) rfl ?_
  rintro X rfl rfl C hcl hsl hnt E
  refine V_aload_n C dX8_split_0 rfl ?_
  refine V_iload_n C dX8_split_1 rfl ?_
  refine V_callVD (nA := 1) C dX8_split_2 (k_isPane C.gp hD hW hx) gX8_split_X8_isPane rfl o8 rfl (by decide +kernel) rfl (by decide) (by decide) (Nat.le_of_ble_eq_true rfl) ⟨by omega, by omega⟩ rfl ?_
  refine V_if_eq C 16 dX8_split_5 (by decide) (by omega) (fun z5 => ?_) (fun z5 => ?_)
  · refine V_iconst C dX8_split_16 ?_
    first | (rw [fspF, if_pos (show pnF mu c x = 1 by omega)] at hf E ; exact V_callSX (nA := 1) C hcl hsl hnt E dX8_split_17 (c_throwIfX C.gp hGX hl9 hf) gX8_split_X8_throwIf rfl (by decide +kernel) rfl (by omega) (by decide) (Nat.le_of_ble_eq_true rfl) rfl) | (rw [fspF, if_neg (show ¬ pnF mu c x = 1 by omega)] at hf E ; exact V_callSX (nA := 1) C hcl hsl hnt E dX8_split_17 (c_throwIfX C.gp hGX hl9 hf) gX8_split_X8_throwIf rfl (by decide +kernel) rfl (by omega) (by decide) (Nat.le_of_ble_eq_true rfl) rfl)
  · refine V_iload_n C dX8_split_8 rfl ?_
    refine V_iload_n C dX8_split_9 rfl ?_
    refine V_callSD (nA := 2) C dX8_split_10 (k_faultOfSplitValue C.gp hv hw) gX8_split_X8_faultOfSplitValue rfl (by decide +kernel) rfl (by decide) (by decide) (Nat.le_of_ble_eq_true rfl) ⟨by omega, by omega⟩ rfl ?_
    refine V_goto C 17 dX8_split_13 (by decide) ?_
    first | (rw [fspF, if_pos (show pnF mu c x = 1 by omega)] at hf E ; exact V_callSX (nA := 1) C hcl hsl hnt E dX8_split_17 (c_throwIfX C.gp hGX hl9 hf) gX8_split_X8_throwIf rfl (by decide +kernel) rfl (by omega) (by decide) (Nat.le_of_ble_eq_true rfl) rfl) | (rw [fspF, if_neg (show ¬ pnF mu c x = 1 by omega)] at hf E ; exact V_callSX (nA := 1) C hcl hsl hnt E dX8_split_17 (c_throwIfX C.gp hGX hl9 hf) gX8_split_X8_throwIf rfl (by decide +kernel) rfl (by omega) (by decide) (Nat.le_of_ble_eq_true rfl) rfl)
set_option maxRecDepth 20000 in
theorem ggX8_tab_X8_isPane : GoodIn wsX8_tab wsX8_isPane := goodIn_r _ [6, 1, 32, 33, 34, 35, 36, 37, 38, 39, 40, 41, 42, 43, 44] (by decide +kernel) (by decide +kernel)
set_option maxRecDepth 20000 in
theorem gX8_tab_X8_isPane : GoodIn wsX8_tab (wsV RX8 79 RX8 yX8_isPane wsX8_isPane) := goodIn_app (goodIn_of _ (by decide +kernel)) ggX8_tab_X8_isPane
set_option maxRecDepth 20000 in
theorem ggX8_tab_X8_faultOfIndex : GoodIn wsX8_tab wsX8_faultOfIndex := goodIn_r _ [9] (by decide +kernel) (by decide +kernel)
set_option maxRecDepth 20000 in
theorem gX8_tab_X8_faultOfIndex : GoodIn wsX8_tab (va_wsS RX8 225 yX8_faultOfIndex wsX8_faultOfIndex) := goodIn_app (goodIn_of _ (by decide +kernel)) ggX8_tab_X8_faultOfIndex
set_option maxRecDepth 20000 in
theorem ggX8_tab_X8_throwIf : GoodIn wsX8_tab wsX8_throwIf := goodIn_ca (goodIn_ca (goodIn_ca (goodIn_r _ [12, 13, 14, 15, 16, 17, 18] (by decide +kernel) (by decide +kernel)) (goodIn_sub (fun _ h => List.mem_cons_of_mem _ (List.mem_append_left _ (List.mem_append_left _ (List.mem_append_right _ h)))) (by decide +kernel))) (goodIn_sub (fun _ h => List.mem_cons_of_mem _ (List.mem_append_left _ (List.mem_append_right _ h))) (by decide +kernel))) (goodIn_sub (fun _ h => List.mem_cons_of_mem _ (List.mem_append_right _ h)) (by decide +kernel))
set_option maxRecDepth 20000 in
theorem gX8_tab_X8_throwIf : GoodIn wsX8_tab (va_wsS RX8 51 yX8_throwIf wsX8_throwIf) := goodIn_app (goodIn_of _ (by decide +kernel)) ggX8_tab_X8_throwIf
set_option maxRecDepth 20000 in
theorem ggX8_tab_X4_holderOf : GoodIn wsX8_tab wsX4_holderOf := goodIn_r _ [23, 24, 25, 5, 26, 45, 46, 47, 48, 49, 50, 51, 52] (by decide +kernel) (by decide +kernel)
set_option maxRecDepth 20000 in
theorem gX8_tab_X4_holderOf : GoodIn wsX8_tab (wsV RX8 103 RX4 yX4_holderOf wsX4_holderOf) := goodIn_app (goodIn_of _ (by decide +kernel)) ggX8_tab_X4_holderOf
set_option maxRecDepth 20000 in
theorem ggX8_tab_X4_memberAt : GoodIn wsX8_tab wsX4_memberAt := goodIn_r _ [30, 24, 31, 25, 5, 26, 45, 46, 47, 48, 49, 50, 51, 52] (by decide +kernel) (by decide +kernel)
set_option maxRecDepth 20000 in
theorem gX8_tab_X4_memberAt : GoodIn wsX8_tab (wsV RX8 228 RX4 yX4_memberAt wsX4_memberAt) := goodIn_app (goodIn_of _ (by decide +kernel)) ggX8_tab_X4_memberAt
theorem dX8_tab_0 : decode cX8_tab 0 = .ok (.aload_n 0, 1) := by decide +kernel
theorem dX8_tab_1 : decode cX8_tab 1 = .ok (.iload_n 1, 1) := by decide +kernel
theorem dX8_tab_2 : decode cX8_tab 2 = .ok (.invokevirtual 79, 3) := by decide +kernel
theorem dX8_tab_5 : decode cX8_tab 5 = .ok (.ifCond .eq 10, 3) := by decide +kernel
theorem dX8_tab_8 : decode cX8_tab 8 = .ok (.iload_n 2, 1) := by decide +kernel
theorem dX8_tab_9 : decode cX8_tab 9 = .ok (.invokestatic 225, 3) := by decide +kernel
theorem dX8_tab_12 : decode cX8_tab 12 = .ok (.goto 4, 3) := by decide +kernel
theorem dX8_tab_15 : decode cX8_tab 15 = .ok (.iconst 1, 1) := by decide +kernel
theorem dX8_tab_16 : decode cX8_tab 16 = .ok (.invokestatic 51, 3) := by decide +kernel
theorem dX8_tab_19 : decode cX8_tab 19 = .ok (.aload_n 0, 1) := by decide +kernel
theorem dX8_tab_20 : decode cX8_tab 20 = .ok (.getfield 12, 3) := by decide +kernel
theorem dX8_tab_23 : decode cX8_tab 23 = .ok (.getfield 97, 3) := by decide +kernel
theorem dX8_tab_26 : decode cX8_tab 26 = .ok (.iload_n 1, 1) := by decide +kernel
theorem dX8_tab_27 : decode cX8_tab 27 = .ok (.invokevirtual 103, 3) := by decide +kernel
theorem dX8_tab_30 : decode cX8_tab 30 = .ok (.istore_n 3, 1) := by decide +kernel
theorem dX8_tab_31 : decode cX8_tab 31 = .ok (.iload_n 3, 1) := by decide +kernel
theorem dX8_tab_32 : decode cX8_tab 32 = .ok (.iconst (-1), 1) := by decide +kernel
theorem dX8_tab_33 : decode cX8_tab 33 = .ok (.if_icmp .ne 7, 3) := by decide +kernel
theorem dX8_tab_36 : decode cX8_tab 36 = .ok (.iconst (-1), 1) := by decide +kernel
theorem dX8_tab_37 : decode cX8_tab 37 = .ok (.goto 15, 3) := by decide +kernel
theorem dX8_tab_40 : decode cX8_tab 40 = .ok (.aload_n 0, 1) := by decide +kernel
theorem dX8_tab_41 : decode cX8_tab 41 = .ok (.getfield 12, 3) := by decide +kernel
theorem dX8_tab_44 : decode cX8_tab 44 = .ok (.getfield 97, 3) := by decide +kernel
theorem dX8_tab_47 : decode cX8_tab 47 = .ok (.iload_n 3, 1) := by decide +kernel
theorem dX8_tab_48 : decode cX8_tab 48 = .ok (.iload_n 2, 1) := by decide +kernel
theorem dX8_tab_49 : decode cX8_tab 49 = .ok (.invokevirtual 228, 3) := by decide +kernel
theorem dX8_tab_52 : decode cX8_tab 52 = .ok (.ireturn, 1) := by decide +kernel
theorem hin_X8_tab_X8 : ∀ w ∈ wsX80, w ∈ wsX8_tab := by decide +kernel
theorem lk_X8_tab_12 : Cond.fieldLink RX8 12 RX8 "now" "LDockTree$State;" ∈ wsX8_tab := by decide +kernel
theorem hin_X8_tab_X7 : ∀ w ∈ wsX70, w ∈ wsX8_tab := by decide +kernel
theorem k_tab (hG : GP G) (hD : DoS S a c h t p b q) (hW : Wo mu c h t p) {x i : Int} (hx : -2147483648 ≤ x ∧ x ≤ 2147483647) (hi : -2147483648 ≤ i ∧ i ≤ 2147483647) (hf : ftbF mu c x i = 0) : Ct G l yX8_tab wsX8_tab 2 0 0 [.ref a, .int (I32 x), .int (I32 i)] S n mu la (Dt (some (.int (I32 (tabF (lay mu (c + 2)) x i)))) S n mu la) := by
  have o8 := hD.1
  have o7 := hD.2.1.1
  have o4 := hD.2.1.2.2.1.1
  have hL := hD.2.1.2.2.1
  obtain ⟨f1, f2, f3, f4⟩ := ftbF_0 hf hW.2.2.1.2
  have bb := gL_bd hW.2.1 (by omega) 0 x
  refine Ct.ofV (cc := cX8_tab) (nL := 4) (ret := (some .int)) [some (.ref a), some (.int (I32 x)), some (.int (I32 i)), none] hG (by decide) rfl (Nat.le_of_ble_eq_true rfl) rfl ?_
  rintro X rfl rfl C hcl hsl E
  refine V_aload_n C dX8_tab_0 rfl ?_
  refine V_iload_n C dX8_tab_1 rfl ?_
  refine V_callVD (nA := 1) C dX8_tab_2 (k_isPane C.gp hD hW hx) gX8_tab_X8_isPane rfl o8 rfl (by decide +kernel) rfl (by decide) (by decide) (Nat.le_of_ble_eq_true rfl) ⟨by omega, by omega⟩ rfl ?_
  refine V_if_eq C 15 dX8_tab_5 (by decide) (by omega) (fun z5 => ?_) (fun z5 => ?_)
  · exact absurd z5 (by first | omega | decide)
  · refine V_iload_n C dX8_tab_8 rfl ?_
    refine V_callSD (nA := 1) C dX8_tab_9 (k_faultOfIndex C.gp hi) gX8_tab_X8_faultOfIndex rfl (by decide +kernel) rfl (by decide) (by decide) (Nat.le_of_ble_eq_true rfl) ⟨by omega, by omega⟩ rfl ?_
    rw [f4]
    refine V_goto C 16 dX8_tab_12 (by decide) ?_
    refine V_callSD (nA := 1) C dX8_tab_16 (c_throwIf0 C.gp) gX8_tab_X8_throwIf rfl (by decide +kernel) rfl (by decide) (by decide) (Nat.le_of_ble_eq_true rfl) ⟨by omega, by omega⟩ rfl ?_
    refine V_aload_n C dX8_tab_19 rfl ?_
    refine V_getR C 0 dX8_tab_20 o8 rfl hin_X8_tab_X8 (by decide) lk_X8_tab_12 rfl rfl ?_
    refine V_getNR C 4 (host := "DockTree") dX8_tab_23 o7 rfl hin_X8_tab_X7 (by decide) (by decide +kernel) rfl rfl ?_
    refine V_iload_n C dX8_tab_26 rfl ?_
    refine V_callVD (nA := 1) C dX8_tab_27 (w_holderOf C.gp hL) gX8_tab_X4_holderOf rfl o4 rfl (by decide +kernel) rfl (by decide) (by decide) (Nat.le_of_ble_eq_true rfl) ⟨by omega, by omega⟩ rfl ?_
    refine V_istore_n C dX8_tab_30 rfl (by decide) ?_
    refine V_iload_n C dX8_tab_31 rfl ?_
    refine V_iconst C dX8_tab_32 ?_
    refine V_icmp_ne C 40 dX8_tab_33 (by decide) (by omega) (by omega) (fun z33 => ?_) (fun z33 => ?_)
    · refine V_aload_n C dX8_tab_40 rfl ?_
      refine V_getR C 0 dX8_tab_41 o8 rfl hin_X8_tab_X8 (by decide) lk_X8_tab_12 rfl rfl ?_
      refine V_getNR C 4 (host := "DockTree") dX8_tab_44 o7 rfl hin_X8_tab_X7 (by decide) (by decide +kernel) rfl rfl ?_
      refine V_iload_n C dX8_tab_47 rfl ?_
      refine V_iload_n C dX8_tab_48 rfl ?_
      refine V_callVD (nA := 2) C dX8_tab_49 (wW_memberAt C.gp hL hW.2.1 (by omega) hi) gX8_tab_X4_memberAt rfl o4 rfl (by decide +kernel) rfl (by decide) (by decide) (Nat.le_of_ble_eq_true rfl) ⟨by omega, by omega⟩ rfl ?_
      refine V_ireturn C E dX8_tab_52 (by omega) (by omega) ?_
      exact Dt_int (by unfold tabF; (repeat' split) <;> first | rfl | omega)
    · refine V_iconst C dX8_tab_36 ?_
      refine V_goto C 52 dX8_tab_37 (by decide) ?_
      refine V_ireturn C E dX8_tab_52 (by omega) (by omega) ?_
      exact Dt_int (by unfold tabF; (repeat' split) <;> first | rfl | omega)
-- X8_tab
theorem x_tab (hG : GP G) (hGX : GX G) (hl9 : l.stackTraces = false) (hD : DoS S a c h t p b q) (hW : Wo mu c h t p) {x i : Int} (hx : -2147483648 ≤ x ∧ x ≤ 2147483647) (hi : -2147483648 ≤ i ∧ i ≤ 2147483647) (hf : ftbF mu c x i = 1 ∨ ftbF mu c x i = 2 ∨ ftbF mu c x i = 3) : CtX G l yX8_tab wsX8_tab 7 [.ref a, .int (I32 x), .int (I32 i)] S n mu la (exn (ftbF mu c x i)) := by
  have o8 := hD.1
  have b1 := pnF_b mu c x
  refine CtX.ofV (cc := cX8_tab) (nL := 4) (ret := (some .int)) [some (.ref a), some (.int (I32 x)), some (.int (I32 i)), none] hG (by decide) rfl (Nat.le_of_ble_eq_true rfl) rfl ?_
  rintro X rfl rfl C hcl hsl hnt E
  refine V_aload_n C dX8_tab_0 rfl ?_
  refine V_iload_n C dX8_tab_1 rfl ?_
  refine V_callVD (nA := 1) C dX8_tab_2 (k_isPane C.gp hD hW hx) gX8_tab_X8_isPane rfl o8 rfl (by decide +kernel) rfl (by decide) (by decide) (Nat.le_of_ble_eq_true rfl) ⟨by omega, by omega⟩ rfl ?_
  refine V_if_eq C 15 dX8_tab_5 (by decide) (by omega) (fun z5 => ?_) (fun z5 => ?_)
  · refine V_iconst C dX8_tab_15 ?_
    first | (rw [ftbF, if_pos (show pnF mu c x = 1 by omega)] at hf E ; exact V_callSX (nA := 1) C hcl hsl hnt E dX8_tab_16 (c_throwIfX C.gp hGX hl9 hf) gX8_tab_X8_throwIf rfl (by decide +kernel) rfl (by omega) (by decide) (Nat.le_of_ble_eq_true rfl) rfl) | (rw [ftbF, if_neg (show ¬ pnF mu c x = 1 by omega)] at hf E ; exact V_callSX (nA := 1) C hcl hsl hnt E dX8_tab_16 (c_throwIfX C.gp hGX hl9 hf) gX8_tab_X8_throwIf rfl (by decide +kernel) rfl (by omega) (by decide) (Nat.le_of_ble_eq_true rfl) rfl)
  · refine V_iload_n C dX8_tab_8 rfl ?_
    refine V_callSD (nA := 1) C dX8_tab_9 (k_faultOfIndex C.gp hi) gX8_tab_X8_faultOfIndex rfl (by decide +kernel) rfl (by decide) (by decide) (Nat.le_of_ble_eq_true rfl) ⟨by omega, by omega⟩ rfl ?_
    refine V_goto C 16 dX8_tab_12 (by decide) ?_
    first | (rw [ftbF, if_pos (show pnF mu c x = 1 by omega)] at hf E ; exact V_callSX (nA := 1) C hcl hsl hnt E dX8_tab_16 (c_throwIfX C.gp hGX hl9 hf) gX8_tab_X8_throwIf rfl (by decide +kernel) rfl (by omega) (by decide) (Nat.le_of_ble_eq_true rfl) rfl) | (rw [ftbF, if_neg (show ¬ pnF mu c x = 1 by omega)] at hf E ; exact V_callSX (nA := 1) C hcl hsl hnt E dX8_tab_16 (c_throwIfX C.gp hGX hl9 hf) gX8_tab_X8_throwIf rfl (by decide +kernel) rfl (by omega) (by decide) (Nat.le_of_ble_eq_true rfl) rfl)
set_option maxRecDepth 20000 in
theorem ggX8_group_X8_faultOfIndex : GoodIn wsX8_group wsX8_faultOfIndex := goodIn_r _ [6] (by decide +kernel) (by decide +kernel)
set_option maxRecDepth 20000 in
theorem gX8_group_X8_faultOfIndex : GoodIn wsX8_group (va_wsS RX8 225 yX8_faultOfIndex wsX8_faultOfIndex) := goodIn_app (goodIn_of _ (by decide +kernel)) ggX8_group_X8_faultOfIndex
set_option maxRecDepth 20000 in
theorem ggX8_group_X8_throwIf : GoodIn wsX8_group wsX8_throwIf := goodIn_ca (goodIn_ca (goodIn_ca (goodIn_r _ [9, 10, 11, 12, 13, 14, 15] (by decide +kernel) (by decide +kernel)) (goodIn_sub (fun _ h => List.mem_cons_of_mem _ (List.mem_append_left _ (List.mem_append_left _ (List.mem_append_right _ h)))) (by decide +kernel))) (goodIn_sub (fun _ h => List.mem_cons_of_mem _ (List.mem_append_left _ (List.mem_append_right _ h))) (by decide +kernel))) (goodIn_sub (fun _ h => List.mem_cons_of_mem _ (List.mem_append_right _ h)) (by decide +kernel))
set_option maxRecDepth 20000 in
theorem gX8_group_X8_throwIf : GoodIn wsX8_group (va_wsS RX8 51 yX8_throwIf wsX8_throwIf) := goodIn_app (goodIn_of _ (by decide +kernel)) ggX8_group_X8_throwIf
set_option maxRecDepth 20000 in
theorem ggX8_group_X5_treeGroup : GoodIn wsX8_group wsX5_treeGroup := goodIn_r _ [20, 21, 22, 23, 5, 24, 25, 26, 46, 47, 48, 49, 50, 51, 52, 53, 54, 55, 56, 57, 58] (by decide +kernel) (by decide +kernel)
set_option maxRecDepth 20000 in
theorem gX8_group_X5_treeGroup : GoodIn wsX8_group (wsV RX8 231 RX5 yX5_treeGroup wsX5_treeGroup) := goodIn_app (goodIn_of _ (by decide +kernel)) ggX8_group_X5_treeGroup
set_option maxRecDepth 20000 in
theorem ggX8_group_X4_activeOf : GoodIn wsX8_group wsX4_activeOf := goodIn_r _ [31, 32, 23, 5, 24, 59, 60, 61, 62, 63, 64, 65, 66] (by decide +kernel) (by decide +kernel)
set_option maxRecDepth 20000 in
theorem gX8_group_X4_activeOf : GoodIn wsX8_group (wsV RX8 146 RX4 yX4_activeOf wsX4_activeOf) := goodIn_app (goodIn_of _ (by decide +kernel)) ggX8_group_X4_activeOf
theorem dX8_group_0 : decode cX8_group 0 = .ok (.iload_n 1, 1) := by decide +kernel
theorem dX8_group_1 : decode cX8_group 1 = .ok (.invokestatic 225, 3) := by decide +kernel
theorem dX8_group_4 : decode cX8_group 4 = .ok (.invokestatic 51, 3) := by decide +kernel
theorem dX8_group_7 : decode cX8_group 7 = .ok (.aload_n 0, 1) := by decide +kernel
theorem dX8_group_8 : decode cX8_group 8 = .ok (.getfield 12, 3) := by decide +kernel
theorem dX8_group_11 : decode cX8_group 11 = .ok (.getfield 97, 3) := by decide +kernel
theorem dX8_group_14 : decode cX8_group 14 = .ok (.aload_n 0, 1) := by decide +kernel
theorem dX8_group_15 : decode cX8_group 15 = .ok (.getfield 33, 3) := by decide +kernel
theorem dX8_group_18 : decode cX8_group 18 = .ok (.iload_n 1, 1) := by decide +kernel
theorem dX8_group_19 : decode cX8_group 19 = .ok (.invokevirtual 231, 3) := by decide +kernel
theorem dX8_group_22 : decode cX8_group 22 = .ok (.invokevirtual 146, 3) := by decide +kernel
theorem dX8_group_25 : decode cX8_group 25 = .ok (.ireturn, 1) := by decide +kernel
theorem hin_X8_group_X8 : ∀ w ∈ wsX80, w ∈ wsX8_group := by decide +kernel
theorem lk_X8_group_12 : Cond.fieldLink RX8 12 RX8 "now" "LDockTree$State;" ∈ wsX8_group := by decide +kernel
theorem hin_X8_group_X7 : ∀ w ∈ wsX70, w ∈ wsX8_group := by decide +kernel
theorem lk_X8_group_33 : Cond.fieldLink RX8 33 RX8 "plan" "LDockTree$Plan;" ∈ wsX8_group := by decide +kernel
theorem k_group (hG : GP G) (hD : DoS S a c h t p b q) (hW : Wo mu c h t p) {i : Int} (hi : -2147483648 ≤ i ∧ i ≤ 2147483647) (hf : fiF i = 0) : Ct G l yX8_group wsX8_group 2 0 0 [.ref a, .int (I32 i)] S n mu la (Dt (some (.int (I32 (gL (lay mu (c + 2)) 4 (tnF (pl mu p) i - 16))))) S n mu la) := by
  have o8 := hD.1
  have o7 := hD.2.1.1
  have o5 := hD.2.2.2.2.1.1
  have o4 := hD.2.1.2.2.1.1
  refine Ct.ofV (cc := cX8_group) (nL := 2) (ret := (some .int)) [some (.ref a), some (.int (I32 i))] hG (by decide) rfl (Nat.le_of_ble_eq_true rfl) rfl ?_
  rintro X rfl rfl C hcl hsl E
  refine V_iload_n C dX8_group_0 rfl ?_
  refine V_callSD (nA := 1) C dX8_group_1 (k_faultOfIndex C.gp hi) gX8_group_X8_faultOfIndex rfl (by decide +kernel) rfl (by decide) (by decide) (Nat.le_of_ble_eq_true rfl) ⟨by omega, by omega⟩ rfl ?_
  rw [hf]
  refine V_callSD (nA := 1) C dX8_group_4 (c_throwIf0 C.gp) gX8_group_X8_throwIf rfl (by decide +kernel) rfl (by decide) (by decide) (Nat.le_of_ble_eq_true rfl) ⟨by omega, by omega⟩ rfl ?_
  refine V_aload_n C dX8_group_7 rfl ?_
  refine V_getR C 0 dX8_group_8 o8 rfl hin_X8_group_X8 (by decide) lk_X8_group_12 rfl rfl ?_
  refine V_getNR C 4 (host := "DockTree") dX8_group_11 o7 rfl hin_X8_group_X7 (by decide) (by decide +kernel) rfl rfl ?_
  refine V_aload_n C dX8_group_14 rfl ?_
  refine V_getR C 3 dX8_group_15 o8 rfl hin_X8_group_X8 (by decide) lk_X8_group_33 rfl rfl ?_
  refine V_iload_n C dX8_group_18 rfl ?_
  refine V_callVD (nA := 1) C dX8_group_19 (w_treeGroup C.gp hD.2.2.2.2.1 hW.1 hW.2.2.2.2.2.2.1 hi) gX8_group_X5_treeGroup rfl o5 rfl (by decide +kernel) rfl (by decide) (by decide) (Nat.le_of_ble_eq_true rfl) ⟨by omega, by omega⟩ rfl ?_
  refine V_callVD (nA := 1) C dX8_group_22 (w_activeOf C.gp hD.2.1.2.2.1) gX8_group_X4_activeOf rfl o4 rfl (by decide +kernel) rfl (by decide) (by decide) (Nat.le_of_ble_eq_true rfl) ⟨by omega, by omega⟩ rfl ?_
  refine V_ireturn C E dX8_group_25 (by omega) (by omega) ?_
  exact Dt_rfl
-- X8_group
theorem x_group (hG : GP G) (hGX : GX G) (hl9 : l.stackTraces = false) {i : Int} (hi : -2147483648 ≤ i ∧ i ≤ 2147483647) (hf : fiF i = 1 ∨ fiF i = 2 ∨ fiF i = 3) : CtX G l yX8_group wsX8_group 7 [.ref a, .int (I32 i)] S n mu la (exn (fiF i)) := by
  refine CtX.ofV (cc := cX8_group) (nL := 2) (ret := (some .int)) [some (.ref a), some (.int (I32 i))] hG (by decide) rfl (Nat.le_of_ble_eq_true rfl) rfl ?_
  rintro X rfl rfl C hcl hsl hnt E
  refine V_iload_n C dX8_group_0 rfl ?_
  refine V_callSD (nA := 1) C dX8_group_1 (k_faultOfIndex C.gp hi) gX8_group_X8_faultOfIndex rfl (by decide +kernel) rfl (by decide) (by decide) (Nat.le_of_ble_eq_true rfl) ⟨by omega, by omega⟩ rfl ?_
  exact V_callSX (nA := 1) C hcl hsl hnt E dX8_group_4 (c_throwIfX C.gp hGX hl9 hf) gX8_group_X8_throwIf rfl (by decide +kernel) rfl (by omega) (by decide) (Nat.le_of_ble_eq_true rfl) rfl
set_option maxRecDepth 20000 in
theorem ggX8_floating_X8_faultOfIndex : GoodIn wsX8_floating wsX8_faultOfIndex := goodIn_r _ [5] (by decide +kernel) (by decide +kernel)
set_option maxRecDepth 20000 in
theorem gX8_floating_X8_faultOfIndex : GoodIn wsX8_floating (va_wsS RX8 225 yX8_faultOfIndex wsX8_faultOfIndex) := goodIn_app (goodIn_of _ (by decide +kernel)) ggX8_floating_X8_faultOfIndex
set_option maxRecDepth 20000 in
theorem ggX8_floating_X8_throwIf : GoodIn wsX8_floating wsX8_throwIf := goodIn_ca (goodIn_ca (goodIn_ca (goodIn_r _ [8, 9, 10, 11, 12, 13, 14] (by decide +kernel) (by decide +kernel)) (goodIn_sub (fun _ h => List.mem_cons_of_mem _ (List.mem_append_left _ (List.mem_append_left _ (List.mem_append_right _ h)))) (by decide +kernel))) (goodIn_sub (fun _ h => List.mem_cons_of_mem _ (List.mem_append_left _ (List.mem_append_right _ h))) (by decide +kernel))) (goodIn_sub (fun _ h => List.mem_cons_of_mem _ (List.mem_append_right _ h)) (by decide +kernel))
set_option maxRecDepth 20000 in
theorem gX8_floating_X8_throwIf : GoodIn wsX8_floating (va_wsS RX8 51 yX8_throwIf wsX8_throwIf) := goodIn_app (goodIn_of _ (by decide +kernel)) ggX8_floating_X8_throwIf
set_option maxRecDepth 20000 in
theorem ggX8_floating_X4_memberAt : GoodIn wsX8_floating wsX4_memberAt := goodIn_r _ [19, 20, 21, 22, 4, 23, 42, 43, 44, 45, 46, 47, 48, 49] (by decide +kernel) (by decide +kernel)
set_option maxRecDepth 20000 in
theorem gX8_floating_X4_memberAt : GoodIn wsX8_floating (wsV RX8 228 RX4 yX4_memberAt wsX4_memberAt) := goodIn_app (goodIn_of _ (by decide +kernel)) ggX8_floating_X4_memberAt
set_option maxRecDepth 20000 in
theorem ggX8_floating_X4_activeOf : GoodIn wsX8_floating wsX4_activeOf := goodIn_r _ [27, 28, 22, 4, 23, 42, 43, 44, 45, 46, 47, 48, 49] (by decide +kernel) (by decide +kernel)
set_option maxRecDepth 20000 in
theorem gX8_floating_X4_activeOf : GoodIn wsX8_floating (wsV RX8 146 RX4 yX4_activeOf wsX4_activeOf) := goodIn_app (goodIn_of _ (by decide +kernel)) ggX8_floating_X4_activeOf
theorem dX8_floating_0 : decode cX8_floating 0 = .ok (.iload_n 1, 1) := by decide +kernel
theorem dX8_floating_1 : decode cX8_floating 1 = .ok (.invokestatic 225, 3) := by decide +kernel
theorem dX8_floating_4 : decode cX8_floating 4 = .ok (.invokestatic 51, 3) := by decide +kernel
theorem dX8_floating_7 : decode cX8_floating 7 = .ok (.aload_n 0, 1) := by decide +kernel
theorem dX8_floating_8 : decode cX8_floating 8 = .ok (.getfield 12, 3) := by decide +kernel
theorem dX8_floating_11 : decode cX8_floating 11 = .ok (.getfield 97, 3) := by decide +kernel
theorem dX8_floating_14 : decode cX8_floating 14 = .ok (.aload_n 0, 1) := by decide +kernel
theorem dX8_floating_15 : decode cX8_floating 15 = .ok (.getfield 12, 3) := by decide +kernel
theorem dX8_floating_18 : decode cX8_floating 18 = .ok (.getfield 97, 3) := by decide +kernel
theorem dX8_floating_21 : decode cX8_floating 21 = .ok (.bipush 48, 2) := by decide +kernel
theorem dX8_floating_23 : decode cX8_floating 23 = .ok (.iload_n 1, 1) := by decide +kernel
theorem dX8_floating_24 : decode cX8_floating 24 = .ok (.invokevirtual 228, 3) := by decide +kernel
theorem dX8_floating_27 : decode cX8_floating 27 = .ok (.invokevirtual 146, 3) := by decide +kernel
theorem dX8_floating_30 : decode cX8_floating 30 = .ok (.ireturn, 1) := by decide +kernel
theorem hin_X8_floating_X8 : ∀ w ∈ wsX80, w ∈ wsX8_floating := by decide +kernel
theorem lk_X8_floating_12 : Cond.fieldLink RX8 12 RX8 "now" "LDockTree$State;" ∈ wsX8_floating := by decide +kernel
theorem hin_X8_floating_X7 : ∀ w ∈ wsX70, w ∈ wsX8_floating := by decide +kernel
theorem k_floating (hG : GP G) (hD : DoS S a c h t p b q) (hW : Wo mu c h t p) {i : Int} (hi : -2147483648 ≤ i ∧ i ≤ 2147483647) (hf : fiF i = 0) : Ct G l yX8_floating wsX8_floating 2 0 0 [.ref a, .int (I32 i)] S n mu la (Dt (some (.int (I32 (gL (lay mu (c + 2)) 4 (mbrF (lay mu (c + 2)) 48 i - 16))))) S n mu la) := by
  have o8 := hD.1
  have o7 := hD.2.1.1
  have o4 := hD.2.1.2.2.1.1
  refine Ct.ofV (cc := cX8_floating) (nL := 2) (ret := (some .int)) [some (.ref a), some (.int (I32 i))] hG (by decide) rfl (Nat.le_of_ble_eq_true rfl) rfl ?_
  rintro X rfl rfl C hcl hsl E
  refine V_iload_n C dX8_floating_0 rfl ?_
  refine V_callSD (nA := 1) C dX8_floating_1 (k_faultOfIndex C.gp hi) gX8_floating_X8_faultOfIndex rfl (by decide +kernel) rfl (by decide) (by decide) (Nat.le_of_ble_eq_true rfl) ⟨by omega, by omega⟩ rfl ?_
  rw [hf]
  refine V_callSD (nA := 1) C dX8_floating_4 (c_throwIf0 C.gp) gX8_floating_X8_throwIf rfl (by decide +kernel) rfl (by decide) (by decide) (Nat.le_of_ble_eq_true rfl) ⟨by omega, by omega⟩ rfl ?_
  refine V_aload_n C dX8_floating_7 rfl ?_
  refine V_getR C 0 dX8_floating_8 o8 rfl hin_X8_floating_X8 (by decide) lk_X8_floating_12 rfl rfl ?_
  refine V_getNR C 4 (host := "DockTree") dX8_floating_11 o7 rfl hin_X8_floating_X7 (by decide) (by decide +kernel) rfl rfl ?_
  refine V_aload_n C dX8_floating_14 rfl ?_
  refine V_getR C 0 dX8_floating_15 o8 rfl hin_X8_floating_X8 (by decide) lk_X8_floating_12 rfl rfl ?_
  refine V_getNR C 4 (host := "DockTree") dX8_floating_18 o7 rfl hin_X8_floating_X7 (by decide) (by decide +kernel) rfl rfl ?_
  refine V_bipush C dX8_floating_21 (by decide +kernel) ?_
  refine V_iload_n C dX8_floating_23 rfl ?_
  refine V_callVD (nA := 2) C dX8_floating_24 (wW_memberAt C.gp hD.2.1.2.2.1 hW.2.1 (by omega) hi) gX8_floating_X4_memberAt rfl o4 rfl (by decide +kernel) rfl (by decide) (by decide) (Nat.le_of_ble_eq_true rfl) ⟨by omega, by omega⟩ rfl ?_
  refine V_callVD (nA := 1) C dX8_floating_27 (w_activeOf C.gp hD.2.1.2.2.1) gX8_floating_X4_activeOf rfl o4 rfl (by decide +kernel) rfl (by decide) (by decide) (Nat.le_of_ble_eq_true rfl) ⟨by omega, by omega⟩ rfl ?_
  refine V_ireturn C E dX8_floating_30 (by omega) (by omega) ?_
  exact Dt_rfl
-- X8_floating
theorem x_floating (hG : GP G) (hGX : GX G) (hl9 : l.stackTraces = false) {i : Int} (hi : -2147483648 ≤ i ∧ i ≤ 2147483647) (hf : fiF i = 1 ∨ fiF i = 2 ∨ fiF i = 3) : CtX G l yX8_floating wsX8_floating 7 [.ref a, .int (I32 i)] S n mu la (exn (fiF i)) := by
  refine CtX.ofV (cc := cX8_floating) (nL := 2) (ret := (some .int)) [some (.ref a), some (.int (I32 i))] hG (by decide) rfl (Nat.le_of_ble_eq_true rfl) rfl ?_
  rintro X rfl rfl C hcl hsl hnt E
  refine V_iload_n C dX8_floating_0 rfl ?_
  refine V_callSD (nA := 1) C dX8_floating_1 (k_faultOfIndex C.gp hi) gX8_floating_X8_faultOfIndex rfl (by decide +kernel) rfl (by decide) (by decide) (Nat.le_of_ble_eq_true rfl) ⟨by omega, by omega⟩ rfl ?_
  exact V_callSX (nA := 1) C hcl hsl hnt E dX8_floating_4 (c_throwIfX C.gp hGX hl9 hf) gX8_floating_X8_throwIf rfl (by decide +kernel) rfl (by omega) (by decide) (Nat.le_of_ble_eq_true rfl) rfl
theorem wh_0 (mu : Mem) (c p : Nat) : whF mu c p 0 = mu c 0 := by simp [whF]
theorem wh_1 (mu : Mem) (c p : Nat) : whF mu c p 1 = mu c 1 := by simp [whF]
theorem wh_2 (mu : Mem) (c p : Nat) : whF mu c p 2 = mu c 2 := by simp [whF]
theorem wh_3 (mu : Mem) (c p : Nat) : whF mu c p 3 = piG (lay mu (c + 2)) 1 (mu c 2).toNat := by simp [whF]
theorem wh_4 (mu : Mem) (c p : Nat) : whF mu c p 4 = piG (lay mu (c + 2)) 2 (mu c 2).toNat := by simp [whF]
theorem wh_5 (mu : Mem) (c p : Nat) : whF mu c p 5 = mu p 9 - mu p 10 := by simp [whF]
theorem wh_6 (mu : Mem) (c p : Nat) : whF mu c p 6 = mu p 10 := by simp [whF]
theorem wh_7 (mu : Mem) (c p : Nat) : whF mu c p 7 = gL (lay mu (c + 2)) 2 48 := by simp [whF]
theorem wh_8 (mu : Mem) (c p : Nat) : whF mu c p 8 = lrF (pl mu p) 0 := by simp [whF]
theorem wh_9 (mu : Mem) (c p : Nat) : whF mu c p 9 = lrF (pl mu p) 1 := by simp [whF]
theorem wh_10 (mu : Mem) (c p : Nat) : whF mu c p 10 = mu p 11 := by simp [whF]
theorem wh_11 (mu : Mem) (c p : Nat) : whF mu c p 11 = mu p 12 := by simp [whF]
set_option maxRecDepth 20000 in
theorem ggX8_whole_X8_faultOfRange : GoodIn wsX8_whole wsX8_faultOfRange := goodIn_r _ [6] (by decide +kernel) (by decide +kernel)
set_option maxRecDepth 20000 in
theorem gX8_whole_X8_faultOfRange : GoodIn wsX8_whole (va_wsS RX8 200 yX8_faultOfRange wsX8_faultOfRange) := goodIn_app (goodIn_of _ (by decide +kernel)) ggX8_whole_X8_faultOfRange
set_option maxRecDepth 20000 in
theorem ggX8_whole_X8_throwIf : GoodIn wsX8_whole wsX8_throwIf := goodIn_ca (goodIn_ca (goodIn_ca (goodIn_r _ [9, 10, 11, 12, 13, 14, 15] (by decide +kernel) (by decide +kernel)) (goodIn_sub (fun _ h => List.mem_cons_of_mem _ (List.mem_append_left _ (List.mem_append_left _ (List.mem_append_right _ h)))) (by decide +kernel))) (goodIn_sub (fun _ h => List.mem_cons_of_mem _ (List.mem_append_left _ (List.mem_append_right _ h))) (by decide +kernel))) (goodIn_sub (fun _ h => List.mem_cons_of_mem _ (List.mem_append_right _ h)) (by decide +kernel))
set_option maxRecDepth 20000 in
theorem gX8_whole_X8_throwIf : GoodIn wsX8_whole (va_wsS RX8 51 yX8_throwIf wsX8_throwIf) := goodIn_app (goodIn_of _ (by decide +kernel)) ggX8_whole_X8_throwIf
set_option maxRecDepth 20000 in
theorem ggX8_whole_X8_panesIn : GoodIn wsX8_whole wsX8_panesIn := goodIn_r _ [19, 1, 20, 21, 22, 23, 24, 25, 26, 5, 27, 64, 65, 66, 67, 68, 69, 70, 71, 72, 73, 74, 75, 76, 77, 78, 79, 80, 81, 82, 83, 84] (by decide +kernel) (by decide +kernel)
set_option maxRecDepth 20000 in
theorem gX8_whole_X8_panesIn : GoodIn wsX8_whole (wsV RX8 197 RX8 yX8_panesIn wsX8_panesIn) := goodIn_app (goodIn_of _ (by decide +kernel)) ggX8_whole_X8_panesIn
set_option maxRecDepth 20000 in
theorem ggX8_whole_X5_groups : GoodIn wsX8_whole wsX5_groups := goodIn_r _ [32, 33, 34, 85, 86, 87, 88, 89, 90, 91, 92, 93, 94, 95, 96, 97] (by decide +kernel) (by decide +kernel)
set_option maxRecDepth 20000 in
theorem gX8_whole_X5_groups : GoodIn wsX8_whole (wsV RX8 116 RX5 yX5_groups wsX5_groups) := goodIn_app (goodIn_of _ (by decide +kernel)) ggX8_whole_X5_groups
set_option maxRecDepth 20000 in
theorem ggX8_whole_X5_splits : GoodIn wsX8_whole wsX5_splits := goodIn_r _ [38, 34, 85, 86, 87, 88, 89, 90, 91, 92, 93, 94, 95, 96, 97] (by decide +kernel) (by decide +kernel)
set_option maxRecDepth 20000 in
theorem gX8_whole_X5_splits : GoodIn wsX8_whole (wsV RX8 234 RX5 yX5_splits wsX5_splits) := goodIn_app (goodIn_of _ (by decide +kernel)) ggX8_whole_X5_splits
set_option maxRecDepth 20000 in
theorem ggX8_whole_X4_countOf : GoodIn wsX8_whole wsX4_countOf := goodIn_r _ [42, 43, 26, 5, 27, 77, 78, 79, 80, 81, 82, 83, 84] (by decide +kernel) (by decide +kernel)
set_option maxRecDepth 20000 in
theorem gX8_whole_X4_countOf : GoodIn wsX8_whole (wsV RX8 107 RX4 yX4_countOf wsX4_countOf) := goodIn_app (goodIn_of _ (by decide +kernel)) ggX8_whole_X4_countOf
set_option maxRecDepth 20000 in
theorem ggX8_whole_X5_leastOfRoot : GoodIn wsX8_whole wsX5_leastOfRoot := goodIn_r _ [47, 33, 48, 26, 5, 27, 49, 50, 51, 31, 52, 53, 85, 86, 87, 88, 89, 90, 91, 92, 93, 94, 95, 96, 97] (by decide +kernel) (by decide +kernel)
set_option maxRecDepth 20000 in
theorem gX8_whole_X5_leastOfRoot : GoodIn wsX8_whole (wsV RX8 237 RX5 yX5_leastOfRoot wsX5_leastOfRoot) := goodIn_app (goodIn_of _ (by decide +kernel)) ggX8_whole_X5_leastOfRoot
set_option maxRecDepth 20000 in
theorem ggX8_whole_X5_tightSplits : GoodIn wsX8_whole wsX5_tightSplits := goodIn_r _ [57, 58, 85, 86, 87, 88, 89, 90, 91, 92, 93, 94, 95, 96, 97] (by decide +kernel) (by decide +kernel)
set_option maxRecDepth 20000 in
theorem gX8_whole_X5_tightSplits : GoodIn wsX8_whole (wsV RX8 240 RX5 yX5_tightSplits wsX5_tightSplits) := goodIn_app (goodIn_of _ (by decide +kernel)) ggX8_whole_X5_tightSplits
set_option maxRecDepth 20000 in
theorem ggX8_whole_X5_dividerCells : GoodIn wsX8_whole wsX5_dividerCells := goodIn_r _ [62, 63, 85, 86, 87, 88, 89, 90, 91, 92, 93, 94, 95, 96, 97] (by decide +kernel) (by decide +kernel)
set_option maxRecDepth 20000 in
theorem gX8_whole_X5_dividerCells : GoodIn wsX8_whole (wsV RX8 243 RX5 yX5_dividerCells wsX5_dividerCells) := goodIn_app (goodIn_of _ (by decide +kernel)) ggX8_whole_X5_dividerCells
theorem dX8_whole_0 : decode cX8_whole 0 = .ok (.iload_n 1, 1) := by decide +kernel
theorem dX8_whole_1 : decode cX8_whole 1 = .ok (.iconst 0, 1) := by decide +kernel
theorem dX8_whole_2 : decode cX8_whole 2 = .ok (.bipush 11, 2) := by decide +kernel
theorem dX8_whole_4 : decode cX8_whole 4 = .ok (.invokestatic 200, 3) := by decide +kernel
theorem dX8_whole_7 : decode cX8_whole 7 = .ok (.invokestatic 51, 3) := by decide +kernel
theorem dX8_whole_10 : decode cX8_whole 10 = .ok (.iload_n 1, 1) := by decide +kernel
theorem dX8_whole_11 : decode cX8_whole 11 = .ok (.tableswitch 148 0 10 #[57, 65, 73, 81, 87, 93, 101, 109, 122, 131, 140], 57) := by decide +kernel
theorem dX8_whole_68 : decode cX8_whole 68 = .ok (.aload_n 0, 1) := by decide +kernel
theorem dX8_whole_69 : decode cX8_whole 69 = .ok (.getfield 12, 3) := by decide +kernel
theorem dX8_whole_72 : decode cX8_whole 72 = .ok (.getfield 59, 3) := by decide +kernel
theorem dX8_whole_75 : decode cX8_whole 75 = .ok (.ireturn, 1) := by decide +kernel
theorem dX8_whole_76 : decode cX8_whole 76 = .ok (.aload_n 0, 1) := by decide +kernel
theorem dX8_whole_77 : decode cX8_whole 77 = .ok (.getfield 12, 3) := by decide +kernel
theorem dX8_whole_80 : decode cX8_whole 80 = .ok (.getfield 63, 3) := by decide +kernel
theorem dX8_whole_83 : decode cX8_whole 83 = .ok (.ireturn, 1) := by decide +kernel
theorem dX8_whole_84 : decode cX8_whole 84 = .ok (.aload_n 0, 1) := by decide +kernel
theorem dX8_whole_85 : decode cX8_whole 85 = .ok (.getfield 12, 3) := by decide +kernel
theorem dX8_whole_88 : decode cX8_whole 88 = .ok (.getfield 76, 3) := by decide +kernel
theorem dX8_whole_91 : decode cX8_whole 91 = .ok (.ireturn, 1) := by decide +kernel
theorem dX8_whole_92 : decode cX8_whole 92 = .ok (.aload_n 0, 1) := by decide +kernel
theorem dX8_whole_93 : decode cX8_whole 93 = .ok (.iconst 1, 1) := by decide +kernel
theorem dX8_whole_94 : decode cX8_whole 94 = .ok (.invokevirtual 197, 3) := by decide +kernel
theorem dX8_whole_97 : decode cX8_whole 97 = .ok (.ireturn, 1) := by decide +kernel
theorem dX8_whole_98 : decode cX8_whole 98 = .ok (.aload_n 0, 1) := by decide +kernel
theorem dX8_whole_99 : decode cX8_whole 99 = .ok (.iconst 2, 1) := by decide +kernel
theorem dX8_whole_100 : decode cX8_whole 100 = .ok (.invokevirtual 197, 3) := by decide +kernel
theorem dX8_whole_103 : decode cX8_whole 103 = .ok (.ireturn, 1) := by decide +kernel
theorem dX8_whole_104 : decode cX8_whole 104 = .ok (.aload_n 0, 1) := by decide +kernel
theorem dX8_whole_105 : decode cX8_whole 105 = .ok (.getfield 33, 3) := by decide +kernel
theorem dX8_whole_108 : decode cX8_whole 108 = .ok (.invokevirtual 116, 3) := by decide +kernel
theorem dX8_whole_111 : decode cX8_whole 111 = .ok (.ireturn, 1) := by decide +kernel
theorem dX8_whole_112 : decode cX8_whole 112 = .ok (.aload_n 0, 1) := by decide +kernel
theorem dX8_whole_113 : decode cX8_whole 113 = .ok (.getfield 33, 3) := by decide +kernel
theorem dX8_whole_116 : decode cX8_whole 116 = .ok (.invokevirtual 234, 3) := by decide +kernel
theorem dX8_whole_119 : decode cX8_whole 119 = .ok (.ireturn, 1) := by decide +kernel
theorem dX8_whole_120 : decode cX8_whole 120 = .ok (.aload_n 0, 1) := by decide +kernel
theorem dX8_whole_121 : decode cX8_whole 121 = .ok (.getfield 12, 3) := by decide +kernel
theorem dX8_whole_124 : decode cX8_whole 124 = .ok (.getfield 97, 3) := by decide +kernel
theorem dX8_whole_127 : decode cX8_whole 127 = .ok (.bipush 48, 2) := by decide +kernel
theorem dX8_whole_129 : decode cX8_whole 129 = .ok (.invokevirtual 107, 3) := by decide +kernel
theorem dX8_whole_132 : decode cX8_whole 132 = .ok (.ireturn, 1) := by decide +kernel
theorem dX8_whole_133 : decode cX8_whole 133 = .ok (.aload_n 0, 1) := by decide +kernel
theorem dX8_whole_134 : decode cX8_whole 134 = .ok (.getfield 33, 3) := by decide +kernel
theorem dX8_whole_137 : decode cX8_whole 137 = .ok (.iconst 0, 1) := by decide +kernel
theorem dX8_whole_138 : decode cX8_whole 138 = .ok (.invokevirtual 237, 3) := by decide +kernel
theorem dX8_whole_141 : decode cX8_whole 141 = .ok (.ireturn, 1) := by decide +kernel
theorem dX8_whole_142 : decode cX8_whole 142 = .ok (.aload_n 0, 1) := by decide +kernel
theorem dX8_whole_143 : decode cX8_whole 143 = .ok (.getfield 33, 3) := by decide +kernel
theorem dX8_whole_146 : decode cX8_whole 146 = .ok (.iconst 1, 1) := by decide +kernel
theorem dX8_whole_147 : decode cX8_whole 147 = .ok (.invokevirtual 237, 3) := by decide +kernel
theorem dX8_whole_150 : decode cX8_whole 150 = .ok (.ireturn, 1) := by decide +kernel
theorem dX8_whole_151 : decode cX8_whole 151 = .ok (.aload_n 0, 1) := by decide +kernel
theorem dX8_whole_152 : decode cX8_whole 152 = .ok (.getfield 33, 3) := by decide +kernel
theorem dX8_whole_155 : decode cX8_whole 155 = .ok (.invokevirtual 240, 3) := by decide +kernel
theorem dX8_whole_158 : decode cX8_whole 158 = .ok (.ireturn, 1) := by decide +kernel
theorem dX8_whole_159 : decode cX8_whole 159 = .ok (.aload_n 0, 1) := by decide +kernel
theorem dX8_whole_160 : decode cX8_whole 160 = .ok (.getfield 33, 3) := by decide +kernel
theorem dX8_whole_163 : decode cX8_whole 163 = .ok (.invokevirtual 243, 3) := by decide +kernel
theorem dX8_whole_166 : decode cX8_whole 166 = .ok (.ireturn, 1) := by decide +kernel
theorem hin_X8_whole_X8 : ∀ w ∈ wsX80, w ∈ wsX8_whole := by decide +kernel
theorem lk_X8_whole_12 : Cond.fieldLink RX8 12 RX8 "now" "LDockTree$State;" ∈ wsX8_whole := by decide +kernel
theorem hin_X8_whole_X7 : ∀ w ∈ wsX70, w ∈ wsX8_whole := by decide +kernel
theorem lk_X8_whole_33 : Cond.fieldLink RX8 33 RX8 "plan" "LDockTree$Plan;" ∈ wsX8_whole := by decide +kernel
theorem k_whole (hG : GP G) (hD : DoS S a c h t p b q) (hW : Wo mu c h t p) {w : Int} (hf : frF w 0 11 = 0) : Ct G l yX8_whole wsX8_whole 3 0 0 [.ref a, .int (I32 w)] S n mu la (Dt (some (.int (I32 (whF mu c p w)))) S n mu la) := by
  have o8 := hD.1
  have o7 := hD.2.1.1
  have o5 := hD.2.2.2.2.1.1
  have o4 := hD.2.1.2.2.1.1
  have hw : 0 ≤ w ∧ w ≤ 11 := by unfold frF at hf; split at hf; assumption; omega
  have hB := hW.2.1.mono (show (16000000 : Int) ≤ 16000100 by omega)
  refine Ct.ofV (cc := cX8_whole) (nL := 2) (ret := (some .int)) [some (.ref a), some (.int (I32 w))] hG (by decide) rfl (Nat.le_of_ble_eq_true rfl) rfl ?_
  rintro X rfl rfl C hcl hsl E
  have hw9 : w = 0 ∨ w = 1 ∨ w = 2 ∨ w = 3 ∨ w = 4 ∨ w = 5 ∨ w = 6 ∨ w = 7 ∨ w = 8 ∨ w = 9 ∨ w = 10 ∨ w = 11 := by omega
  rcases hw9 with rfl | rfl | rfl | rfl | rfl | rfl | rfl | rfl | rfl | rfl | rfl | rfl
  · refine V_iload_n C dX8_whole_0 rfl ?_
    refine V_iconst C dX8_whole_1 ?_
    refine V_bipush C dX8_whole_2 (by decide +kernel) ?_
    refine V_callSD (nA := 3) C dX8_whole_4 (k_faultOfRange C.gp (by omega) (by omega) (by omega)) gX8_whole_X8_faultOfRange rfl (by decide +kernel) rfl (by decide) (by decide) (Nat.le_of_ble_eq_true rfl) ⟨by omega, by omega⟩ rfl ?_
    rw [hf]
    refine V_callSD (nA := 1) C dX8_whole_7 (c_throwIf0 C.gp) gX8_whole_X8_throwIf rfl (by decide +kernel) rfl (by decide) (by decide) (Nat.le_of_ble_eq_true rfl) ⟨by omega, by omega⟩ rfl ?_
    refine V_iload_n C dX8_whole_10 rfl ?_
    refine V_tableIn C 68 dX8_whole_11 (by omega) (by omega) (by omega) rfl (by decide) ?_
    refine V_aload_n C dX8_whole_68 rfl ?_
    refine V_getR C 0 dX8_whole_69 o8 rfl hin_X8_whole_X8 (by decide) lk_X8_whole_12 rfl rfl ?_
    refine V_getNJ C 0 0 rfl (host := "DockTree") dX8_whole_72 o7 rfl hin_X8_whole_X7 (by decide) (by decide +kernel) rfl rfl rfl ?_
    refine V_ireturn C E dX8_whole_75 (by omega) (by omega) ?_
    rw [wh_0]
    exact Dt_rfl
  · refine V_iload_n C dX8_whole_0 rfl ?_
    refine V_iconst C dX8_whole_1 ?_
    refine V_bipush C dX8_whole_2 (by decide +kernel) ?_
    refine V_callSD (nA := 3) C dX8_whole_4 (k_faultOfRange C.gp (by omega) (by omega) (by omega)) gX8_whole_X8_faultOfRange rfl (by decide +kernel) rfl (by decide) (by decide) (Nat.le_of_ble_eq_true rfl) ⟨by omega, by omega⟩ rfl ?_
    rw [hf]
    refine V_callSD (nA := 1) C dX8_whole_7 (c_throwIf0 C.gp) gX8_whole_X8_throwIf rfl (by decide +kernel) rfl (by decide) (by decide) (Nat.le_of_ble_eq_true rfl) ⟨by omega, by omega⟩ rfl ?_
    refine V_iload_n C dX8_whole_10 rfl ?_
    refine V_tableIn C 76 dX8_whole_11 (by omega) (by omega) (by omega) rfl (by decide) ?_
    refine V_aload_n C dX8_whole_76 rfl ?_
    refine V_getR C 0 dX8_whole_77 o8 rfl hin_X8_whole_X8 (by decide) lk_X8_whole_12 rfl rfl ?_
    refine V_getNJ C 1 1 rfl (host := "DockTree") dX8_whole_80 o7 rfl hin_X8_whole_X7 (by decide) (by decide +kernel) rfl rfl rfl ?_
    refine V_ireturn C E dX8_whole_83 (by omega) (by omega) ?_
    rw [wh_1]
    exact Dt_rfl
  · refine V_iload_n C dX8_whole_0 rfl ?_
    refine V_iconst C dX8_whole_1 ?_
    refine V_bipush C dX8_whole_2 (by decide +kernel) ?_
    refine V_callSD (nA := 3) C dX8_whole_4 (k_faultOfRange C.gp (by omega) (by omega) (by omega)) gX8_whole_X8_faultOfRange rfl (by decide +kernel) rfl (by decide) (by decide) (Nat.le_of_ble_eq_true rfl) ⟨by omega, by omega⟩ rfl ?_
    rw [hf]
    refine V_callSD (nA := 1) C dX8_whole_7 (c_throwIf0 C.gp) gX8_whole_X8_throwIf rfl (by decide +kernel) rfl (by decide) (by decide) (Nat.le_of_ble_eq_true rfl) ⟨by omega, by omega⟩ rfl ?_
    refine V_iload_n C dX8_whole_10 rfl ?_
    refine V_tableIn C 84 dX8_whole_11 (by omega) (by omega) (by omega) rfl (by decide) ?_
    refine V_aload_n C dX8_whole_84 rfl ?_
    refine V_getR C 0 dX8_whole_85 o8 rfl hin_X8_whole_X8 (by decide) lk_X8_whole_12 rfl rfl ?_
    refine V_getNJ C 2 2 rfl (host := "DockTree") dX8_whole_88 o7 rfl hin_X8_whole_X7 (by decide) (by decide +kernel) rfl rfl rfl ?_
    refine V_ireturn C E dX8_whole_91 (by omega) (by omega) ?_
    rw [wh_2]
    exact Dt_rfl
  · refine V_iload_n C dX8_whole_0 rfl ?_
    refine V_iconst C dX8_whole_1 ?_
    refine V_bipush C dX8_whole_2 (by decide +kernel) ?_
    refine V_callSD (nA := 3) C dX8_whole_4 (k_faultOfRange C.gp (by omega) (by omega) (by omega)) gX8_whole_X8_faultOfRange rfl (by decide +kernel) rfl (by decide) (by decide) (Nat.le_of_ble_eq_true rfl) ⟨by omega, by omega⟩ rfl ?_
    rw [hf]
    refine V_callSD (nA := 1) C dX8_whole_7 (c_throwIf0 C.gp) gX8_whole_X8_throwIf rfl (by decide +kernel) rfl (by decide) (by decide) (Nat.le_of_ble_eq_true rfl) ⟨by omega, by omega⟩ rfl ?_
    refine V_iload_n C dX8_whole_10 rfl ?_
    refine V_tableIn C 92 dX8_whole_11 (by omega) (by omega) (by omega) rfl (by decide) ?_
    refine V_aload_n C dX8_whole_92 rfl ?_
    refine V_iconst C dX8_whole_93 ?_
    refine V_callVD (nA := 1) C dX8_whole_94 (k_panesIn C.gp hD hB hW.2.2.1 (by omega)) gX8_whole_X8_panesIn rfl o8 rfl (by decide +kernel) rfl (by decide) (by decide) (Nat.le_of_ble_eq_true rfl) ⟨by omega, by omega⟩ rfl ?_
    refine V_ireturn C E dX8_whole_97 (by omega) (by omega) ?_
    rw [wh_3]
    exact Dt_rfl
  · refine V_iload_n C dX8_whole_0 rfl ?_
    refine V_iconst C dX8_whole_1 ?_
    refine V_bipush C dX8_whole_2 (by decide +kernel) ?_
    refine V_callSD (nA := 3) C dX8_whole_4 (k_faultOfRange C.gp (by omega) (by omega) (by omega)) gX8_whole_X8_faultOfRange rfl (by decide +kernel) rfl (by decide) (by decide) (Nat.le_of_ble_eq_true rfl) ⟨by omega, by omega⟩ rfl ?_
    rw [hf]
    refine V_callSD (nA := 1) C dX8_whole_7 (c_throwIf0 C.gp) gX8_whole_X8_throwIf rfl (by decide +kernel) rfl (by decide) (by decide) (Nat.le_of_ble_eq_true rfl) ⟨by omega, by omega⟩ rfl ?_
    refine V_iload_n C dX8_whole_10 rfl ?_
    refine V_tableIn C 98 dX8_whole_11 (by omega) (by omega) (by omega) rfl (by decide) ?_
    refine V_aload_n C dX8_whole_98 rfl ?_
    refine V_iconst C dX8_whole_99 ?_
    refine V_callVD (nA := 1) C dX8_whole_100 (k_panesIn C.gp hD hB hW.2.2.1 (by omega)) gX8_whole_X8_panesIn rfl o8 rfl (by decide +kernel) rfl (by decide) (by decide) (Nat.le_of_ble_eq_true rfl) ⟨by omega, by omega⟩ rfl ?_
    refine V_ireturn C E dX8_whole_103 (by omega) (by omega) ?_
    rw [wh_4]
    exact Dt_rfl
  · refine V_iload_n C dX8_whole_0 rfl ?_
    refine V_iconst C dX8_whole_1 ?_
    refine V_bipush C dX8_whole_2 (by decide +kernel) ?_
    refine V_callSD (nA := 3) C dX8_whole_4 (k_faultOfRange C.gp (by omega) (by omega) (by omega)) gX8_whole_X8_faultOfRange rfl (by decide +kernel) rfl (by decide) (by decide) (Nat.le_of_ble_eq_true rfl) ⟨by omega, by omega⟩ rfl ?_
    rw [hf]
    refine V_callSD (nA := 1) C dX8_whole_7 (c_throwIf0 C.gp) gX8_whole_X8_throwIf rfl (by decide +kernel) rfl (by decide) (by decide) (Nat.le_of_ble_eq_true rfl) ⟨by omega, by omega⟩ rfl ?_
    refine V_iload_n C dX8_whole_10 rfl ?_
    refine V_tableIn C 104 dX8_whole_11 (by omega) (by omega) (by omega) rfl (by decide) ?_
    refine V_aload_n C dX8_whole_104 rfl ?_
    refine V_getR C 3 dX8_whole_105 o8 rfl hin_X8_whole_X8 (by decide) lk_X8_whole_33 rfl rfl ?_
    refine V_callVD (nA := 0) C dX8_whole_108 (w_groups C.gp hD.2.2.2.2.1) gX8_whole_X5_groups rfl o5 rfl (by decide +kernel) rfl (by decide) (by decide) (Nat.le_of_ble_eq_true rfl) ⟨by omega, by omega⟩ rfl ?_
    refine V_ireturn C E dX8_whole_111 (by omega) (by omega) ?_
    rw [wh_5]
    exact Dt_rfl
  · refine V_iload_n C dX8_whole_0 rfl ?_
    refine V_iconst C dX8_whole_1 ?_
    refine V_bipush C dX8_whole_2 (by decide +kernel) ?_
    refine V_callSD (nA := 3) C dX8_whole_4 (k_faultOfRange C.gp (by omega) (by omega) (by omega)) gX8_whole_X8_faultOfRange rfl (by decide +kernel) rfl (by decide) (by decide) (Nat.le_of_ble_eq_true rfl) ⟨by omega, by omega⟩ rfl ?_
    rw [hf]
    refine V_callSD (nA := 1) C dX8_whole_7 (c_throwIf0 C.gp) gX8_whole_X8_throwIf rfl (by decide +kernel) rfl (by decide) (by decide) (Nat.le_of_ble_eq_true rfl) ⟨by omega, by omega⟩ rfl ?_
    refine V_iload_n C dX8_whole_10 rfl ?_
    refine V_tableIn C 112 dX8_whole_11 (by omega) (by omega) (by omega) rfl (by decide) ?_
    refine V_aload_n C dX8_whole_112 rfl ?_
    refine V_getR C 3 dX8_whole_113 o8 rfl hin_X8_whole_X8 (by decide) lk_X8_whole_33 rfl rfl ?_
    refine V_callVD (nA := 0) C dX8_whole_116 (w_splits C.gp hD.2.2.2.2.1) gX8_whole_X5_splits rfl o5 rfl (by decide +kernel) rfl (by decide) (by decide) (Nat.le_of_ble_eq_true rfl) ⟨by omega, by omega⟩ rfl ?_
    refine V_ireturn C E dX8_whole_119 (by omega) (by omega) ?_
    rw [wh_6]
    exact Dt_rfl
  · refine V_iload_n C dX8_whole_0 rfl ?_
    refine V_iconst C dX8_whole_1 ?_
    refine V_bipush C dX8_whole_2 (by decide +kernel) ?_
    refine V_callSD (nA := 3) C dX8_whole_4 (k_faultOfRange C.gp (by omega) (by omega) (by omega)) gX8_whole_X8_faultOfRange rfl (by decide +kernel) rfl (by decide) (by decide) (Nat.le_of_ble_eq_true rfl) ⟨by omega, by omega⟩ rfl ?_
    rw [hf]
    refine V_callSD (nA := 1) C dX8_whole_7 (c_throwIf0 C.gp) gX8_whole_X8_throwIf rfl (by decide +kernel) rfl (by decide) (by decide) (Nat.le_of_ble_eq_true rfl) ⟨by omega, by omega⟩ rfl ?_
    refine V_iload_n C dX8_whole_10 rfl ?_
    refine V_tableIn C 120 dX8_whole_11 (by omega) (by omega) (by omega) rfl (by decide) ?_
    refine V_aload_n C dX8_whole_120 rfl ?_
    refine V_getR C 0 dX8_whole_121 o8 rfl hin_X8_whole_X8 (by decide) lk_X8_whole_12 rfl rfl ?_
    refine V_getNR C 4 (host := "DockTree") dX8_whole_124 o7 rfl hin_X8_whole_X7 (by decide) (by decide +kernel) rfl rfl ?_
    refine V_bipush C dX8_whole_127 (by decide +kernel) ?_
    refine V_callVD (nA := 1) C dX8_whole_129 (w_countOf C.gp hD.2.1.2.2.1) gX8_whole_X4_countOf rfl o4 rfl (by decide +kernel) rfl (by decide) (by decide) (Nat.le_of_ble_eq_true rfl) ⟨by omega, by omega⟩ rfl ?_
    refine V_ireturn C E dX8_whole_132 (by omega) (by omega) ?_
    rw [wh_7]
    exact Dt_rfl
  · refine V_iload_n C dX8_whole_0 rfl ?_
    refine V_iconst C dX8_whole_1 ?_
    refine V_bipush C dX8_whole_2 (by decide +kernel) ?_
    refine V_callSD (nA := 3) C dX8_whole_4 (k_faultOfRange C.gp (by omega) (by omega) (by omega)) gX8_whole_X8_faultOfRange rfl (by decide +kernel) rfl (by decide) (by decide) (Nat.le_of_ble_eq_true rfl) ⟨by omega, by omega⟩ rfl ?_
    rw [hf]
    refine V_callSD (nA := 1) C dX8_whole_7 (c_throwIf0 C.gp) gX8_whole_X8_throwIf rfl (by decide +kernel) rfl (by decide) (by decide) (Nat.le_of_ble_eq_true rfl) ⟨by omega, by omega⟩ rfl ?_
    refine V_iload_n C dX8_whole_10 rfl ?_
    refine V_tableIn C 133 dX8_whole_11 (by omega) (by omega) (by omega) rfl (by decide) ?_
    refine V_aload_n C dX8_whole_133 rfl ?_
    refine V_getR C 3 dX8_whole_134 o8 rfl hin_X8_whole_X8 (by decide) lk_X8_whole_33 rfl rfl ?_
    refine V_iconst C dX8_whole_137 ?_
    refine V_callVD (nA := 1) C dX8_whole_138 (w_leastOfRoot C.gp hD.2.2.2.2.1 hW.1) gX8_whole_X5_leastOfRoot rfl o5 rfl (by decide +kernel) rfl (by decide) (by decide) (Nat.le_of_ble_eq_true rfl) ⟨by omega, by omega⟩ rfl ?_
    refine V_ireturn C E dX8_whole_141 (by omega) (by omega) ?_
    rw [wh_8]
    exact Dt_rfl
  · refine V_iload_n C dX8_whole_0 rfl ?_
    refine V_iconst C dX8_whole_1 ?_
    refine V_bipush C dX8_whole_2 (by decide +kernel) ?_
    refine V_callSD (nA := 3) C dX8_whole_4 (k_faultOfRange C.gp (by omega) (by omega) (by omega)) gX8_whole_X8_faultOfRange rfl (by decide +kernel) rfl (by decide) (by decide) (Nat.le_of_ble_eq_true rfl) ⟨by omega, by omega⟩ rfl ?_
    rw [hf]
    refine V_callSD (nA := 1) C dX8_whole_7 (c_throwIf0 C.gp) gX8_whole_X8_throwIf rfl (by decide +kernel) rfl (by decide) (by decide) (Nat.le_of_ble_eq_true rfl) ⟨by omega, by omega⟩ rfl ?_
    refine V_iload_n C dX8_whole_10 rfl ?_
    refine V_tableIn C 142 dX8_whole_11 (by omega) (by omega) (by omega) rfl (by decide) ?_
    refine V_aload_n C dX8_whole_142 rfl ?_
    refine V_getR C 3 dX8_whole_143 o8 rfl hin_X8_whole_X8 (by decide) lk_X8_whole_33 rfl rfl ?_
    refine V_iconst C dX8_whole_146 ?_
    refine V_callVD (nA := 1) C dX8_whole_147 (w_leastOfRoot C.gp hD.2.2.2.2.1 hW.1) gX8_whole_X5_leastOfRoot rfl o5 rfl (by decide +kernel) rfl (by decide) (by decide) (Nat.le_of_ble_eq_true rfl) ⟨by omega, by omega⟩ rfl ?_
    refine V_ireturn C E dX8_whole_150 (by omega) (by omega) ?_
    rw [wh_9]
    exact Dt_rfl
  · refine V_iload_n C dX8_whole_0 rfl ?_
    refine V_iconst C dX8_whole_1 ?_
    refine V_bipush C dX8_whole_2 (by decide +kernel) ?_
    refine V_callSD (nA := 3) C dX8_whole_4 (k_faultOfRange C.gp (by omega) (by omega) (by omega)) gX8_whole_X8_faultOfRange rfl (by decide +kernel) rfl (by decide) (by decide) (Nat.le_of_ble_eq_true rfl) ⟨by omega, by omega⟩ rfl ?_
    rw [hf]
    refine V_callSD (nA := 1) C dX8_whole_7 (c_throwIf0 C.gp) gX8_whole_X8_throwIf rfl (by decide +kernel) rfl (by decide) (by decide) (Nat.le_of_ble_eq_true rfl) ⟨by omega, by omega⟩ rfl ?_
    refine V_iload_n C dX8_whole_10 rfl ?_
    refine V_tableIn C 151 dX8_whole_11 (by omega) (by omega) (by omega) rfl (by decide) ?_
    refine V_aload_n C dX8_whole_151 rfl ?_
    refine V_getR C 3 dX8_whole_152 o8 rfl hin_X8_whole_X8 (by decide) lk_X8_whole_33 rfl rfl ?_
    refine V_callVD (nA := 0) C dX8_whole_155 (w_tightSplits C.gp hD.2.2.2.2.1) gX8_whole_X5_tightSplits rfl o5 rfl (by decide +kernel) rfl (by decide) (by decide) (Nat.le_of_ble_eq_true rfl) ⟨by omega, by omega⟩ rfl ?_
    refine V_ireturn C E dX8_whole_158 (by omega) (by omega) ?_
    rw [wh_10]
    exact Dt_rfl
  · refine V_iload_n C dX8_whole_0 rfl ?_
    refine V_iconst C dX8_whole_1 ?_
    refine V_bipush C dX8_whole_2 (by decide +kernel) ?_
    refine V_callSD (nA := 3) C dX8_whole_4 (k_faultOfRange C.gp (by omega) (by omega) (by omega)) gX8_whole_X8_faultOfRange rfl (by decide +kernel) rfl (by decide) (by decide) (Nat.le_of_ble_eq_true rfl) ⟨by omega, by omega⟩ rfl ?_
    rw [hf]
    refine V_callSD (nA := 1) C dX8_whole_7 (c_throwIf0 C.gp) gX8_whole_X8_throwIf rfl (by decide +kernel) rfl (by decide) (by decide) (Nat.le_of_ble_eq_true rfl) ⟨by omega, by omega⟩ rfl ?_
    refine V_iload_n C dX8_whole_10 rfl ?_
    refine V_tableOut C 159 dX8_whole_11 (by omega) (by omega) (by decide) ?_
    refine V_aload_n C dX8_whole_159 rfl ?_
    refine V_getR C 3 dX8_whole_160 o8 rfl hin_X8_whole_X8 (by decide) lk_X8_whole_33 rfl rfl ?_
    refine V_callVD (nA := 0) C dX8_whole_163 (w_dividerCells C.gp hD.2.2.2.2.1) gX8_whole_X5_dividerCells rfl o5 rfl (by decide +kernel) rfl (by decide) (by decide) (Nat.le_of_ble_eq_true rfl) ⟨by omega, by omega⟩ rfl ?_
    refine V_ireturn C E dX8_whole_166 (by omega) (by omega) ?_
    rw [wh_11]
    exact Dt_rfl
-- X8_whole
theorem x_whole (hG : GP G) (hGX : GX G) (hl9 : l.stackTraces = false) {w : Int} (hw : -2147483648 ≤ w ∧ w ≤ 2147483647) (hf : frF w 0 11 = 1 ∨ frF w 0 11 = 2 ∨ frF w 0 11 = 3) : CtX G l yX8_whole wsX8_whole 7 [.ref a, .int (I32 w)] S n mu la (exn (frF w 0 11)) := by
  refine CtX.ofV (cc := cX8_whole) (nL := 2) (ret := (some .int)) [some (.ref a), some (.int (I32 w))] hG (by decide) rfl (Nat.le_of_ble_eq_true rfl) rfl ?_
  rintro X rfl rfl C hcl hsl hnt E
  refine V_iload_n C dX8_whole_0 rfl ?_
  refine V_iconst C dX8_whole_1 ?_
  refine V_bipush C dX8_whole_2 (by decide +kernel) ?_
  refine V_callSD (nA := 3) C dX8_whole_4 (k_faultOfRange C.gp hw (by omega) (by omega)) gX8_whole_X8_faultOfRange rfl (by decide +kernel) rfl (by decide) (by decide) (Nat.le_of_ble_eq_true rfl) ⟨by omega, by omega⟩ rfl ?_
  exact V_callSX (nA := 1) C hcl hsl hnt E dX8_whole_7 (c_throwIfX C.gp hGX hl9 hf) gX8_whole_X8_throwIf rfl (by decide +kernel) rfl (by omega) (by decide) (Nat.le_of_ble_eq_true rfl) rfl
def bsG (mu : Mem) (c b q : Nat) (x y : Int) : Nat → Mem × Int × Int
  | 0 => (mu, 0, -1)
  | j + 1 => (cb3 (bsG mu c b q x y j).1 c b q x y j, if (bsG mu c b q x y j).2.2 < wr (cbA (bsG mu c b q x y j).1 c b q x y j) then (j : Int) else (bsG mu c b q x y j).2.1, if (bsG mu c b q x y j).2.2 < wr (cbA (bsG mu c b q x y j).1 c b q x y j) then wr (cbA (bsG mu c b q x y j).1 c b q x y j) else (bsG mu c b q x y j).2.2)
theorem lay_cb3 {mu : Mem} {c b q d : Nat} (hb : d + 8 < b + 1 ∨ b + 8 < d + 1) (hq : d + 8 < q ∨ q + 14 ≤ d + 1) (x y z : Int) : lay (cb3 mu c b q x y z) d = lay mu d := by
  show lay (putK (cb2 mu c b x y z) q 14 _) d = _
  rw [lay_putK (by omega)]
  show lay (putL (cb1 mu c b) b _) d = _
  rw [lay_putL_off hb]
  exact lay_cp8_off hb
theorem cb3_bd {mu : Mem} {c b q : Nat} {N : Int} (hd : c + 10 < b + 1) (hq : b + 9 ≤ q) (hN : 16000000 ≤ N) (hB : Bd 16000000 (lay mu (c + 2))) (hB2 : Bd N (lay mu b)) {x : Int} (hx : 0 ≤ x ∧ x ≤ 15) (y z : Int) : Bd (N + 12) (lay (cb3 mu c b q x y z) b) := by
  have hB1 : Bd N (lay (cb1 mu c b) b) := lay_cp8_bd (by omega) (hB.mono hN) hB2
  have hB3 := dkF_bd (p := x) hB1 (by omega) (by omega) y z
  show Bd (N + 12) (lay (putK (cb2 mu c b x y z) q 14 _) b)
  rw [lay_putK (by omega)]
  exact lay_putL_bd (by omega) hB3
theorem cb3_R {mu : Mem} {c b q : Nat} {N : Int} (hd : c + 10 < b + 1) (hN : 16000000 ≤ N ∧ N ≤ 16700000) (hR : R32 mu) (hB : Bd 16000000 (lay mu (c + 2))) (hB2 : Bd N (lay mu b)) {x : Int} (hx : 0 ≤ x ∧ x ≤ 15) (y z : Int) : R32 (cb3 mu c b q x y z) := by
  have hB1 : Bd N (lay (cb1 mu c b) b) := lay_cp8_bd (by omega) (hB.mono hN.1) hB2
  have hB3 := dkF_bd (p := x) hB1 (by omega) (by omega) y z
  have hR2 : R32 (cb2 mu c b x y z) := R32_putL (R32_cp8 hR _ _ _) (hB3.r32 (by omega))
  exact R32_putK hR2 (wkF_R (pl_R hR2 q) _ _ _ _)
theorem bsG_ok {mu : Mem} {c b q : Nat} (hd : c + 10 < b + 1) (hq : b + 9 ≤ q) (hR : R32 mu) (hB : Bd 16000000 (lay mu (c + 2))) (hB2 : Bd 16000000 (lay mu b)) {x : Int} (hx : 0 ≤ x ∧ x ≤ 15) (y : Int) : ∀ j : Nat, j ≤ 4 →
    R32 (bsG mu c b q x y j).1 ∧ lay (bsG mu c b q x y j).1 (c + 2) = lay mu (c + 2) ∧ Bd (16000000 + 12 * j) (lay (bsG mu c b q x y j).1 b) ∧ (0 ≤ (bsG mu c b q x y j).2.1 ∧ (bsG mu c b q x y j).2.1 ≤ 4) ∧ (-2147483648 ≤ (bsG mu c b q x y j).2.2 ∧ (bsG mu c b q x y j).2.2 ≤ 2147483647)
  | 0, _ => ⟨hR, rfl, (by show Bd (16000000 + 12 * ((0 : Nat) : Int)) (lay mu b); exact hB2.mono (by omega)), by simp [bsG], by simp [bsG]⟩
  | j + 1, hj => by
    obtain ⟨h1, h2, h3, h4, h5⟩ := bsG_ok hd hq hR hB hB2 hx y j (by omega)
    have hBj : Bd 16000000 (lay (bsG mu c b q x y j).1 (c + 2)) := by rw [h2]; exact hB
    have bw := wr_b (cbA (bsG mu c b q x y j).1 c b q x y j)
    refine ⟨cb3_R hd (by omega) h1 hBj h3 hx _ _, ?_, ?_, ?_, ?_⟩
    · rw [bsG]
      exact (lay_cb3 (by omega) (by omega) _ _ _).trans h2
    · rw [bsG]
      have h9 := cb3_bd hd hq (by omega) hBj h3 hx y j
      exact h9.mono (by omega)
    · rw [bsG]
      dsimp only
      split <;> omega
    · rw [bsG]
      dsimp only
      split <;> omega
def fuF (mu : Mem) (h : Nat) : Int := if 0 < mu h 1 then 0 else 3
theorem lay_stC {mu : Mem} {c d : Nat} {N : Int} (hd : c + 49 ≤ d ∨ d + 49 ≤ c) (h1 : Bd N (lay mu (d + 2))) (h2 : Bd N (lay mu (c + 2))) : Bd N (lay (stC mu d c) (c + 2)) := by
  have e : ∀ j, j ≤ 4 → lay (stK mu d c j) (c + 2) = lay (stA mu d c) (c + 2) := by
    intro j
    induction j with
    | zero => intro _; rfl
    | succ j ih =>
      intro hj
      rw [stK]
      split
      · rw [lay_cp8_off (by omega)]; exact ih (by omega)
      · exact ih (by omega)
  show Bd N (lay (stK mu d c 4) (c + 2))
  rw [e 4 (by omega)]
  have e2 : lay (stA mu d c) (c + 2) = lay (cp8 (cpF (cp3 mu d c) (d + 1) (c + 1) 32) (d + 2) (c + 2) 8) (c + 2) := by
    funext k i
    unfold lay
    split
    · rw [stA, cpF_off (by omega)]
    · rfl
  rw [e2]
  have e3 : ∀ b, (c + 1 < b + 1 ∨ b + 8 < c) → lay (cpF (cp3 mu d c) (d + 1) (c + 1) 32) b = lay mu b := by
    intro b hb
    funext k i
    unfold lay
    split
    · rw [cpF_off (by omega), cp3, up_a _ _ _ _ (by omega), up_a _ _ _ _ (by omega), up_a _ _ _ _ (by omega)]
    · rfl
  exact lay_cp8_bd (by omega) (by rw [e3 _ (by omega)]; exact h1) (by rw [e3 _ (by omega)]; exact h2)
end D5
