/-! DockTree: the calls that change the state; each returns where its fault is 0, and throws where it isn't -/
theorem raF_bd {N : Int} {L : Mem} (h : Bd N L) (hN : 100 ≤ N) (g : Int) : Bd (N + 12) (raF L g) := by
  have h1 := remF_bd h (by omega) g
  have b2 := aL_bd h1 (by omega) 2 48
  exact (insF_bd h1 (by omega) _ (by omega) (by omega)).mono (by omega)
theorem mvF_bd {N : Int} {L : Mem} (h : Bd N L) (hN : 100 ≤ N) (p : Int) {i : Int} (hi : -N ≤ i ∧ i ≤ N) : Bd (N + 12) (mvF L p i) := by
  have h1 := remF_bd h (by omega) p
  have b2 := aL_bd h (by omega) 0 p
  exact (insF_bd h1 (by omega) _ (by omega) (by omega)).mono (by omega)
theorem flF_bd {N : Int} {L : Mem} (h : Bd N L) (hN : 1000 ≤ N) {p x y w v : Int} (hp : -N ≤ p ∧ p ≤ N) (hx : -N ≤ x ∧ x ≤ N) (hy : -N ≤ y ∧ y ≤ N) (hw : -N ≤ w ∧ w ≤ N) (hv : -N ≤ v ∧ v ≤ N) : Bd (N + 12) (flF L p x y w v) := by
  have h1 := tkF_bd h (by omega) p
  have h2 := grpF_bd h1 (by omega) (p := p) (by omega)
  have b2 := aL_bd h2 (by omega) 2 48
  have h3 : Bd (N + 12) (insF (grpF (tkF L p) p) (unuF (tkF L p) 16 32) 48 (aL (grpF (tkF L p) p) 2 48)) := (insF_bd h2 (by omega) _ (by omega) (by omega)).mono (by omega)
  exact pL_bd (pL_bd (pL_bd (pL_bd h3 _ _ (by omega)) _ _ (by omega)) _ _ (by omega)) _ _ (by omega)
theorem lay_bd_off {N : Int} {mu mu' : Mem} {b : Nat} (h : Bd N (lay mu b)) (e : lay mu' b = lay mu b) : Bd N (lay mu' b) := by rw [e]; exact h
def slF (mu : Mem) (c : Nat) (x w v : Int) : Int := if pnF mu c x = 1 then feF w v else 1
theorem slF_b (mu : Mem) (c : Nat) (x w v : Int) : 0 ≤ slF mu c x w v ∧ slF mu c x w v ≤ 2 := by unfold slF; have := feF_b w v; split <;> omega
theorem fdF_0 {mu : Mem} {c : Nat} {x y z : Int} (h : fdF mu c x y z = 0) (hp : mu c 2 ≤ 16) : (0 ≤ x ∧ x ≤ 15) ∧ (0 ≤ y ∧ y ≤ 15) ∧ (0 ≤ z ∧ z ≤ 4) := by
  unfold fdF at h
  split at h
  · rename_i q
    have q1 := pnF_1 (x := x) (by omega) hp
    have q2 := pnF_1 (x := y) (by omega) hp
    refine ⟨q1, q2, ?_⟩
    split at h <;> omega
  · omega
theorem fgF_0 {mu : Mem} {c : Nat} {x z : Int} (h : fgF mu c x z = 0) (hp : mu c 2 ≤ 16) : (0 ≤ x ∧ x ≤ 15) ∧ (0 ≤ z ∧ z ≤ 3) := by
  unfold fgF at h
  split at h
  · rename_i q
    refine ⟨pnF_1 (x := x) (by omega) hp, ?_⟩
    unfold frF at h
    split at h <;> omega
  · omega
theorem fflF_0 {mu : Mem} {c : Nat} {x y z w v : Int} (h : fflF mu c x y z w v = 0) (hp : mu c 2 ≤ 16) : (0 ≤ x ∧ x ≤ 15) ∧ (0 ≤ y ∧ y < 400) ∧ (0 ≤ z ∧ z < 400) ∧ (1 ≤ w ∧ w ≤ 400) ∧ (1 ≤ v ∧ v ≤ 400) := by
  unfold fflF at h
  split at h
  · rename_i q
    refine ⟨pnF_1 (x := x) (by omega) hp, ?_⟩
    split at h <;> omega
  · omega
theorem fpF_0 {mu : Mem} {c : Nat} {x : Int} (h : fpF mu c x = 0) (hp : mu c 2 ≤ 16) : 0 ≤ x ∧ x ≤ 15 := by
  unfold fpF at h
  split at h
  · exact pnF_1 (x := x) (by omega) hp
  · omega
theorem foF_0 {mu : Mem} {c : Nat} {x : Int} (h : foF mu c x = 0) (hp : mu c 2 ≤ 16) : 0 ≤ x ∧ x ≤ 15 := by
  unfold foF at h
  split at h
  · exact pnF_1 (x := x) (by omega) hp
  · omega
theorem faF_0 {mu : Mem} {c : Nat} {x : Int} (h : faF mu c x = 0) (hp : mu c 2 ≤ 16) : 0 ≤ x ∧ x ≤ 15 := by
  unfold faF at h
  split at h
  · exact pnF_1 (x := x) (by omega) hp
  · omega
theorem fshF_0 {mu : Mem} {c : Nat} {x w : Int} (h : fshF mu c x w = 0) (hp : mu c 2 ≤ 16) : (0 ≤ x ∧ x ≤ 15) ∧ (1 ≤ w ∧ w ≤ 1000000) := by
  unfold fshF at h
  split at h
  · refine ⟨pnF_1 (x := x) (by omega) hp, ?_⟩
    split at h <;> omega
  · omega
theorem fmF_0 {mu : Mem} {c : Nat} {x y : Int} (h : fmF mu c x y = 0) (hp : mu c 2 ≤ 16) (hB : Bd 16000000 (lay mu (c + 2))) : (0 ≤ x ∧ x ≤ 15) ∧ (0 ≤ y ∧ y ≤ 16000000) := by
  unfold fmF at h
  split at h
  · rename_i q
    refine ⟨foF_0 q hp, ?_⟩
    have b3 := gL_bd hB (by omega) 2 (gL (lay mu (c + 2)) 0 x)
    unfold frF at h
    split at h <;> omega
  · omega
theorem fdrF_0 {mu : Mem} {c p : Nat} {x d : Int} (h : fdrF mu c p x d = 0) (hp : mu c 2 ≤ 16) : (0 ≤ x ∧ x ≤ 15) ∧ (-400 ≤ d ∧ d ≤ 400) ∧ spF (gL (lay mu (c + 2)) 0 (gL (lay mu (c + 2)) 0 x)) = 1 := by
  unfold fdrF at h
  have b := spF_b (gL (lay mu (c + 2)) 0 (gL (lay mu (c + 2)) 0 x))
  split at h
  · refine ⟨pnF_1 (x := x) (by omega) hp, ?_⟩
    split at h
    · omega
    · split at h
      · omega
      · omega
  · omega
section D4
variable {G : Gx} {l : Launch} {S : Sh} {n : Nat} {mu : Mem} {la : Lam} {a c h t p b q : Nat}
set_option maxRecDepth 20000 in
theorem ggX8_setWindow_X8_faultOfWindow : GoodIn wsX8_setWindow wsX8_faultOfWindow := goodIn_r _ [6, 7, 8, 5, 9] (by decide +kernel) (by decide +kernel)
set_option maxRecDepth 20000 in
theorem gX8_setWindow_X8_faultOfWindow : GoodIn wsX8_setWindow (va_wsS RX8 47 yX8_faultOfWindow wsX8_faultOfWindow) := goodIn_app (goodIn_of _ (by decide +kernel)) ggX8_setWindow_X8_faultOfWindow
set_option maxRecDepth 20000 in
theorem ggX8_setWindow_X8_throwIf : GoodIn wsX8_setWindow wsX8_throwIf := goodIn_ca (goodIn_ca (goodIn_ca (goodIn_r _ [12, 13, 14, 15, 16, 17, 18] (by decide +kernel) (by decide +kernel)) (goodIn_sub (fun _ h => List.mem_cons_of_mem _ (List.mem_append_left _ (List.mem_append_left _ (List.mem_append_right _ h)))) (by decide +kernel))) (goodIn_sub (fun _ h => List.mem_cons_of_mem _ (List.mem_append_left _ (List.mem_append_right _ h))) (by decide +kernel))) (goodIn_sub (fun _ h => List.mem_cons_of_mem _ (List.mem_append_right _ h)) (by decide +kernel))
set_option maxRecDepth 20000 in
theorem gX8_setWindow_X8_throwIf : GoodIn wsX8_setWindow (va_wsS RX8 51 yX8_throwIf wsX8_throwIf) := goodIn_app (goodIn_of _ (by decide +kernel)) ggX8_setWindow_X8_throwIf
set_option maxRecDepth 20000 in
theorem ggX8_setWindow_X3_push : GoodIn wsX8_setWindow wsX3_push := goodIn_r _ [23, 24, 25, 26, 27, 28, 29, 30, 31, 32, 22, 33, 34, 35, 36, 37, 38, 39, 40, 41, 42, 43, 44, 45, 46, 5, 47, 48, 49, 50, 51, 52, 53, 54, 55, 56, 57, 58, 59, 60, 61, 62, 63, 64, 65, 66, 67, 68, 69, 70, 71, 72, 73, 74, 75, 76, 239, 240, 241, 232, 233, 234, 235, 236, 237, 238, 242, 243, 244, 245, 246, 247, 248, 249] (by decide +kernel) (by decide +kernel)
set_option maxRecDepth 20000 in
theorem gX8_setWindow_X3_push : GoodIn wsX8_setWindow (wsV RX8 55 RX3 yX3_push wsX3_push) := goodIn_app (goodIn_of _ (by decide +kernel)) ggX8_setWindow_X3_push
set_option maxRecDepth 20000 in
theorem ggX8_setWindow_X8_settle : GoodIn wsX8_setWindow wsX8_settle := goodIn_s _ [(80, 2), (2, 1), (82, 21), (56, 1), (103, 1), (58, 1), (75, 1), (5, 1), (76, 1), (104, 4), (59, 1), (108, 16), (60, 1), (124, 9), (28, 1), (133, 5), (63, 1), (138, 9), (64, 1), (147, 4), (65, 1), (151, 35), (61, 1), (186, 53), (250, 13), (242, 8), (263, 6)] (by rfl) (by decide +kernel)
set_option maxRecDepth 20000 in
theorem gX8_setWindow_X8_settle : GoodIn wsX8_setWindow (wsV RX8 66 RX8 yX8_settle wsX8_settle) := goodIn_app (goodIn_of _ (by decide +kernel)) ggX8_setWindow_X8_settle
theorem dX8_setWindow_0 : decode cX8_setWindow 0 = .ok (.iload_n 1, 1) := by decide +kernel
theorem dX8_setWindow_1 : decode cX8_setWindow 1 = .ok (.iload_n 2, 1) := by decide +kernel
theorem dX8_setWindow_2 : decode cX8_setWindow 2 = .ok (.invokestatic 47, 3) := by decide +kernel
theorem dX8_setWindow_5 : decode cX8_setWindow 5 = .ok (.invokestatic 51, 3) := by decide +kernel
theorem dX8_setWindow_8 : decode cX8_setWindow 8 = .ok (.aload_n 0, 1) := by decide +kernel
theorem dX8_setWindow_9 : decode cX8_setWindow 9 = .ok (.getfield 19, 3) := by decide +kernel
theorem dX8_setWindow_12 : decode cX8_setWindow 12 = .ok (.aload_n 0, 1) := by decide +kernel
theorem dX8_setWindow_13 : decode cX8_setWindow 13 = .ok (.getfield 12, 3) := by decide +kernel
theorem dX8_setWindow_16 : decode cX8_setWindow 16 = .ok (.invokevirtual 55, 3) := by decide +kernel
theorem dX8_setWindow_19 : decode cX8_setWindow 19 = .ok (.sipush 1000, 3) := by decide +kernel
theorem dX8_setWindow_22 : decode cX8_setWindow 22 = .ok (.aload_n 0, 1) := by decide +kernel
theorem dX8_setWindow_23 : decode cX8_setWindow 23 = .ok (.getfield 12, 3) := by decide +kernel
theorem dX8_setWindow_26 : decode cX8_setWindow 26 = .ok (.getfield 59, 3) := by decide +kernel
theorem dX8_setWindow_29 : decode cX8_setWindow 29 = .ok (.imul, 1) := by decide +kernel
theorem dX8_setWindow_30 : decode cX8_setWindow 30 = .ok (.aload_n 0, 1) := by decide +kernel
theorem dX8_setWindow_31 : decode cX8_setWindow 31 = .ok (.getfield 12, 3) := by decide +kernel
theorem dX8_setWindow_34 : decode cX8_setWindow 34 = .ok (.getfield 63, 3) := by decide +kernel
theorem dX8_setWindow_37 : decode cX8_setWindow 37 = .ok (.iadd, 1) := by decide +kernel
theorem dX8_setWindow_38 : decode cX8_setWindow 38 = .ok (.istore_n 3, 1) := by decide +kernel
theorem dX8_setWindow_39 : decode cX8_setWindow 39 = .ok (.aload_n 0, 1) := by decide +kernel
theorem dX8_setWindow_40 : decode cX8_setWindow 40 = .ok (.getfield 12, 3) := by decide +kernel
theorem dX8_setWindow_43 : decode cX8_setWindow 43 = .ok (.iload_n 1, 1) := by decide +kernel
theorem dX8_setWindow_44 : decode cX8_setWindow 44 = .ok (.putfield 59, 3) := by decide +kernel
theorem dX8_setWindow_47 : decode cX8_setWindow 47 = .ok (.aload_n 0, 1) := by decide +kernel
theorem dX8_setWindow_48 : decode cX8_setWindow 48 = .ok (.getfield 12, 3) := by decide +kernel
theorem dX8_setWindow_51 : decode cX8_setWindow 51 = .ok (.iload_n 2, 1) := by decide +kernel
theorem dX8_setWindow_52 : decode cX8_setWindow 52 = .ok (.putfield 63, 3) := by decide +kernel
theorem dX8_setWindow_55 : decode cX8_setWindow 55 = .ok (.aload_n 0, 1) := by decide +kernel
theorem dX8_setWindow_56 : decode cX8_setWindow 56 = .ok (.invokevirtual 66, 3) := by decide +kernel
theorem dX8_setWindow_59 : decode cX8_setWindow 59 = .ok (.iload_n 3, 1) := by decide +kernel
theorem dX8_setWindow_60 : decode cX8_setWindow 60 = .ok (.ireturn, 1) := by decide +kernel
theorem hin_X8_setWindow_X8 : ∀ w ∈ wsX80, w ∈ wsX8_setWindow := by decide +kernel
theorem lk_X8_setWindow_19 : Cond.fieldLink RX8 19 RX8 "history" "LDockTree$History;" ∈ wsX8_setWindow := by decide +kernel
theorem lk_X8_setWindow_12 : Cond.fieldLink RX8 12 RX8 "now" "LDockTree$State;" ∈ wsX8_setWindow := by decide +kernel
theorem hin_X8_setWindow_X7 : ∀ w ∈ wsX70, w ∈ wsX8_setWindow := by decide +kernel
theorem k_setWindow (hG : GP G) (hD : DoS S a c h t p b q) (hW : Wo mu c h t p) {x y : Int} (hx : -2147483648 ≤ x ∧ x ≤ 2147483647) (hy : -2147483648 ≤ y ∧ y ≤ 2147483647) (hf : fwF x y = 0) : Ct G l yX8_setWindow wsX8_setWindow 6 0 0 [.ref a, .int (I32 x), .int (I32 y)] S n mu la (Dt (some (.int (I32 (1000 * (pshM mu c h) c 0 + (pshM mu c h) c 1)))) S n (stlM (up (up (pshM mu c h) c 0 x) c 1 y) p c) la) := by
  have o8 := hD.1
  have o7 := hD.2.1.1
  have o3 := hD.2.2.1.1
  have o5 := hD.2.2.2.2.1.1
  have o4 := hD.2.1.2.2.1.1
  have dj := hD.2.2.2.2.2.2.2
  have hn := hW.2.2.2.1
  have hz9 := hW.2.2.2.2.1
  have hR1 := R32_pshM (c := c) hW.1 hn hz9
  have l1 : lay (pshM mu c h) (c + 2) = lay mu (c + 2) := lay_psh hn (by omega)
  have hB1 : Bd 16000000 (lay (pshM mu c h) (c + 2)) := by rw [l1]; exact hW.2.1
  refine Ct.ofV (cc := cX8_setWindow) (nL := 4) (ret := (some .int)) [some (.ref a), some (.int (I32 x)), some (.int (I32 y)), none] hG (by decide) rfl (Nat.le_of_ble_eq_true rfl) rfl ?_
  rintro X rfl rfl C hcl hsl E
  refine V_iload_n C dX8_setWindow_0 rfl ?_
  refine V_iload_n C dX8_setWindow_1 rfl ?_
  refine V_callSD (nA := 2) C dX8_setWindow_2 (k_faultOfWindow C.gp hx hy) gX8_setWindow_X8_faultOfWindow rfl (by decide +kernel) rfl (by decide) (by decide) (Nat.le_of_ble_eq_true rfl) ⟨by omega, by omega⟩ rfl ?_
  rw [hf]
  refine V_callSD (nA := 1) C dX8_setWindow_5 (c_throwIf0 C.gp) gX8_setWindow_X8_throwIf rfl (by decide +kernel) rfl (by decide) (by decide) (Nat.le_of_ble_eq_true rfl) ⟨by omega, by omega⟩ rfl ?_
  refine V_aload_n C dX8_setWindow_8 rfl ?_
  refine V_getR C 1 dX8_setWindow_9 o8 rfl hin_X8_setWindow_X8 (by decide) lk_X8_setWindow_19 rfl rfl ?_
  refine V_aload_n C dX8_setWindow_12 rfl ?_
  refine V_getR C 0 dX8_setWindow_13 o8 rfl hin_X8_setWindow_X8 (by decide) lk_X8_setWindow_12 rfl rfl ?_
  refine V_callVD (nA := 1) C dX8_setWindow_16 (c_push C.gp hD.2.2.1 hD.2.1 (by omega) hW.1 hn hz9) gX8_setWindow_X3_push rfl o3 rfl (by decide +kernel) rfl (by decide) (by decide) (Nat.le_of_ble_eq_true rfl) ⟨by omega, by omega⟩ rfl ?_
  refine V_sipush C dX8_setWindow_19 (by decide +kernel) ?_
  refine V_aload_n C dX8_setWindow_22 rfl ?_
  refine V_getR C 0 dX8_setWindow_23 o8 rfl hin_X8_setWindow_X8 (by decide) lk_X8_setWindow_12 rfl rfl ?_
  refine V_getNJ C 0 0 rfl (host := "DockTree") dX8_setWindow_26 o7 rfl hin_X8_setWindow_X7 (by decide) (by decide +kernel) rfl rfl rfl ?_
  refine V_imul C dX8_setWindow_29 ?_
  refine V_aload_n C dX8_setWindow_30 rfl ?_
  refine V_getR C 0 dX8_setWindow_31 o8 rfl hin_X8_setWindow_X8 (by decide) lk_X8_setWindow_12 rfl rfl ?_
  refine V_getNJ C 1 1 rfl (host := "DockTree") dX8_setWindow_34 o7 rfl hin_X8_setWindow_X7 (by decide) (by decide +kernel) rfl rfl rfl ?_
  refine V_iadd C dX8_setWindow_37 ?_
  refine V_istore_n C dX8_setWindow_38 rfl (by decide) ?_
  refine V_aload_n C dX8_setWindow_39 rfl ?_
  refine V_getR C 0 dX8_setWindow_40 o8 rfl hin_X8_setWindow_X8 (by decide) lk_X8_setWindow_12 rfl rfl ?_
  refine V_iload_n C dX8_setWindow_43 rfl ?_
  refine V_putNJ C 0 0 rfl (host := "DockTree") dX8_setWindow_44 o7 rfl hin_X8_setWindow_X7 tyX7 tyX7_ok nmX7 (by decide) (by decide +kernel) rfl rfl (by decide +kernel) rfl rfl ?_
  refine V_aload_n C dX8_setWindow_47 rfl ?_
  refine V_getR C 0 dX8_setWindow_48 o8 rfl hin_X8_setWindow_X8 (by decide) lk_X8_setWindow_12 rfl rfl ?_
  refine V_iload_n C dX8_setWindow_51 rfl ?_
  refine V_putNJ C 1 1 rfl (host := "DockTree") dX8_setWindow_52 o7 rfl hin_X8_setWindow_X7 tyX7 tyX7_ok nmX7 (by decide) (by decide +kernel) rfl rfl (by decide +kernel) rfl rfl ?_
  refine V_aload_n C dX8_setWindow_55 rfl ?_
  refine V_callVD (nA := 0) C dX8_setWindow_56 (k_settle C.gp hD (R32_up (R32_up hR1 _ _ hx) _ _ hy) (lay_bd_off hB1 ((lay_up (by omega) _ _).trans (lay_up (by omega) _ _))) (by omega)) gX8_setWindow_X8_settle rfl o8 rfl (by decide +kernel) rfl (by decide) (by decide) (Nat.le_of_ble_eq_true rfl) ⟨by omega, by omega⟩ rfl ?_
  refine V_iload_n C dX8_setWindow_59 rfl ?_
  refine V_ireturn C E dX8_setWindow_60 (by omega) (by omega) ?_
  exact Dt_rfl
-- X8_setWindow
theorem x_setWindow (hG : GP G) (hGX : GX G) (hl9 : l.stackTraces = false) (hD : DoS S a c h t p b q) (hW : Wo mu c h t p) {x y : Int} (hx : -2147483648 ≤ x ∧ x ≤ 2147483647) (hy : -2147483648 ≤ y ∧ y ≤ 2147483647) (hf : fwF x y = 1 ∨ fwF x y = 2 ∨ fwF x y = 3) : CtX G l yX8_setWindow wsX8_setWindow 7 [.ref a, .int (I32 x), .int (I32 y)] S n mu la (exn (fwF x y)) := by
  have o8 := hD.1
  have o7 := hD.2.1.1
  refine CtX.ofV (cc := cX8_setWindow) (nL := 4) (ret := (some .int)) [some (.ref a), some (.int (I32 x)), some (.int (I32 y)), none] hG (by decide) rfl (Nat.le_of_ble_eq_true rfl) rfl ?_
  rintro X rfl rfl C hcl hsl hnt E
  refine V_iload_n C dX8_setWindow_0 rfl ?_
  refine V_iload_n C dX8_setWindow_1 rfl ?_
  refine V_callSD (nA := 2) C dX8_setWindow_2 (k_faultOfWindow C.gp hx hy) gX8_setWindow_X8_faultOfWindow rfl (by decide +kernel) rfl (by decide) (by decide) (Nat.le_of_ble_eq_true rfl) ⟨by omega, by omega⟩ rfl ?_
  exact V_callSX (nA := 1) C hcl hsl hnt E dX8_setWindow_5 (c_throwIfX C.gp hGX hl9 hf) gX8_setWindow_X8_throwIf rfl (by decide +kernel) rfl (by omega) (by decide) (Nat.le_of_ble_eq_true rfl) rfl
set_option maxRecDepth 20000 in
theorem ggX8_addPane_X8_faultOfNewPane : GoodIn wsX8_addPane wsX8_faultOfNewPane := goodIn_r _ [7, 2, 8, 9, 6, 10, 11, 12, 13, 238, 239, 240, 241, 242, 243, 244, 245, 246, 247, 248, 249, 250] (by decide +kernel) (by decide +kernel)
set_option maxRecDepth 20000 in
theorem gX8_addPane_X8_faultOfNewPane : GoodIn wsX8_addPane (wsV RX8 69 RX8 yX8_faultOfNewPane wsX8_faultOfNewPane) := goodIn_app (goodIn_of _ (by decide +kernel)) ggX8_addPane_X8_faultOfNewPane
set_option maxRecDepth 20000 in
theorem ggX8_addPane_X8_throwIf : GoodIn wsX8_addPane wsX8_throwIf := goodIn_ca (goodIn_ca (goodIn_ca (goodIn_r _ [16, 17, 18, 19, 20, 21, 22] (by decide +kernel) (by decide +kernel)) (goodIn_sub (fun _ h => List.mem_cons_of_mem _ (List.mem_append_left _ (List.mem_append_left _ (List.mem_append_right _ h)))) (by decide +kernel))) (goodIn_sub (fun _ h => List.mem_cons_of_mem _ (List.mem_append_left _ (List.mem_append_right _ h))) (by decide +kernel))) (goodIn_sub (fun _ h => List.mem_cons_of_mem _ (List.mem_append_right _ h)) (by decide +kernel))
set_option maxRecDepth 20000 in
theorem gX8_addPane_X8_throwIf : GoodIn wsX8_addPane (va_wsS RX8 51 yX8_throwIf wsX8_throwIf) := goodIn_app (goodIn_of _ (by decide +kernel)) ggX8_addPane_X8_throwIf
set_option maxRecDepth 20000 in
theorem ggX8_addPane_X3_push : GoodIn wsX8_addPane wsX3_push := goodIn_r _ [27, 28, 29, 30, 31, 32, 33, 34, 35, 36, 26, 37, 38, 39, 40, 41, 42, 43, 44, 45, 46, 47, 48, 49, 50, 6, 51, 52, 53, 54, 55, 56, 57, 58, 59, 60, 61, 62, 63, 64, 65, 66, 67, 68, 69, 70, 71, 72, 73, 74, 75, 76, 77, 78, 79, 80, 251, 252, 253, 244, 245, 246, 247, 248, 249, 250, 254, 255, 256, 257, 258, 259, 260, 261] (by decide +kernel) (by decide +kernel)
set_option maxRecDepth 20000 in
theorem gX8_addPane_X3_push : GoodIn wsX8_addPane (wsV RX8 55 RX3 yX3_push wsX3_push) := goodIn_app (goodIn_of _ (by decide +kernel)) ggX8_addPane_X3_push
set_option maxRecDepth 20000 in
theorem ggX8_addPane_X7_appendPane : GoodIn wsX8_addPane wsX7_appendPane := goodIn_r _ [84, 46, 85, 86, 87, 42, 88, 47, 89, 6, 90, 244, 245, 246, 247, 248, 249, 250] (by decide +kernel) (by decide +kernel)
set_option maxRecDepth 20000 in
theorem gX8_addPane_X7_appendPane : GoodIn wsX8_addPane (wsV RX8 72 RX7 yX7_appendPane wsX7_appendPane) := goodIn_app (goodIn_of _ (by decide +kernel)) ggX8_addPane_X7_appendPane
set_option maxRecDepth 20000 in
theorem ggX8_addPane_X8_settle : GoodIn wsX8_addPane wsX8_settle := goodIn_s _ [(94, 2), (2, 1), (96, 21), (60, 1), (117, 1), (62, 1), (79, 1), (6, 1), (80, 1), (118, 4), (63, 1), (89, 2), (122, 14), (64, 1), (136, 9), (32, 1), (145, 5), (67, 1), (150, 9), (68, 1), (159, 4), (69, 1), (163, 35), (65, 1), (198, 53), (262, 13), (254, 8), (275, 6)] (by rfl) (by decide +kernel)
set_option maxRecDepth 20000 in
theorem gX8_addPane_X8_settle : GoodIn wsX8_addPane (wsV RX8 66 RX8 yX8_settle wsX8_settle) := goodIn_app (goodIn_of _ (by decide +kernel)) ggX8_addPane_X8_settle
theorem dX8_addPane_0 : decode cX8_addPane 0 = .ok (.aload_n 0, 1) := by decide +kernel
theorem dX8_addPane_1 : decode cX8_addPane 1 = .ok (.iload_n 1, 1) := by decide +kernel
theorem dX8_addPane_2 : decode cX8_addPane 2 = .ok (.iload_n 2, 1) := by decide +kernel
theorem dX8_addPane_3 : decode cX8_addPane 3 = .ok (.invokevirtual 69, 3) := by decide +kernel
theorem dX8_addPane_6 : decode cX8_addPane 6 = .ok (.invokestatic 51, 3) := by decide +kernel
theorem dX8_addPane_9 : decode cX8_addPane 9 = .ok (.aload_n 0, 1) := by decide +kernel
theorem dX8_addPane_10 : decode cX8_addPane 10 = .ok (.getfield 19, 3) := by decide +kernel
theorem dX8_addPane_13 : decode cX8_addPane 13 = .ok (.aload_n 0, 1) := by decide +kernel
theorem dX8_addPane_14 : decode cX8_addPane 14 = .ok (.getfield 12, 3) := by decide +kernel
theorem dX8_addPane_17 : decode cX8_addPane 17 = .ok (.invokevirtual 55, 3) := by decide +kernel
theorem dX8_addPane_20 : decode cX8_addPane 20 = .ok (.aload_n 0, 1) := by decide +kernel
theorem dX8_addPane_21 : decode cX8_addPane 21 = .ok (.getfield 12, 3) := by decide +kernel
theorem dX8_addPane_24 : decode cX8_addPane 24 = .ok (.iload_n 1, 1) := by decide +kernel
theorem dX8_addPane_25 : decode cX8_addPane 25 = .ok (.iload_n 2, 1) := by decide +kernel
theorem dX8_addPane_26 : decode cX8_addPane 26 = .ok (.invokevirtual 72, 3) := by decide +kernel
theorem dX8_addPane_29 : decode cX8_addPane 29 = .ok (.aload_n 0, 1) := by decide +kernel
theorem dX8_addPane_30 : decode cX8_addPane 30 = .ok (.invokevirtual 66, 3) := by decide +kernel
theorem dX8_addPane_33 : decode cX8_addPane 33 = .ok (.aload_n 0, 1) := by decide +kernel
theorem dX8_addPane_34 : decode cX8_addPane 34 = .ok (.getfield 12, 3) := by decide +kernel
theorem dX8_addPane_37 : decode cX8_addPane 37 = .ok (.getfield 76, 3) := by decide +kernel
theorem dX8_addPane_40 : decode cX8_addPane 40 = .ok (.iconst 1, 1) := by decide +kernel
theorem dX8_addPane_41 : decode cX8_addPane 41 = .ok (.isub, 1) := by decide +kernel
theorem dX8_addPane_42 : decode cX8_addPane 42 = .ok (.ireturn, 1) := by decide +kernel
theorem hin_X8_addPane_X8 : ∀ w ∈ wsX80, w ∈ wsX8_addPane := by decide +kernel
theorem lk_X8_addPane_19 : Cond.fieldLink RX8 19 RX8 "history" "LDockTree$History;" ∈ wsX8_addPane := by decide +kernel
theorem lk_X8_addPane_12 : Cond.fieldLink RX8 12 RX8 "now" "LDockTree$State;" ∈ wsX8_addPane := by decide +kernel
theorem hin_X8_addPane_X7 : ∀ w ∈ wsX70, w ∈ wsX8_addPane := by decide +kernel
theorem k_addPane (hG : GP G) (hD : DoS S a c h t p b q) (hW : Wo mu c h t p) {x y : Int} (hx : -2147483648 ≤ x ∧ x ≤ 2147483647) (hy : -2147483648 ≤ y ∧ y ≤ 2147483647) (hf : fnF mu c x y = 0) : Ct G l yX8_addPane wsX8_addPane 6 0 0 [.ref a, .int (I32 x), .int (I32 y)] S n mu la (Dt (some (.int (I32 ((stlM (apM (pshM mu c h) c x y) p c) c 2 - 1)))) S n (stlM (apM (pshM mu c h) c x y) p c) la) := by
  have o8 := hD.1
  have o7 := hD.2.1.1
  have o3 := hD.2.2.1.1
  have o5 := hD.2.2.2.2.1.1
  have o4 := hD.2.1.2.2.1.1
  have dj := hD.2.2.2.2.2.2.2
  have hn := hW.2.2.2.1
  have hz9 := hW.2.2.2.2.1
  have hR1 := R32_pshM (c := c) hW.1 hn hz9
  have l1 : lay (pshM mu c h) (c + 2) = lay mu (c + 2) := lay_psh hn (by omega)
  have hB1 : Bd 16000000 (lay (pshM mu c h) (c + 2)) := by rw [l1]; exact hW.2.1
  refine Ct.ofV (cc := cX8_addPane) (nL := 3) (ret := (some .int)) [some (.ref a), some (.int (I32 x)), some (.int (I32 y))] hG (by decide) rfl (Nat.le_of_ble_eq_true rfl) rfl ?_
  rintro X rfl rfl C hcl hsl E
  refine V_aload_n C dX8_addPane_0 rfl ?_
  refine V_iload_n C dX8_addPane_1 rfl ?_
  refine V_iload_n C dX8_addPane_2 rfl ?_
  refine V_callVD (nA := 2) C dX8_addPane_3 (k_faultOfNewPane C.gp hD hW hx hy) gX8_addPane_X8_faultOfNewPane rfl o8 rfl (by decide +kernel) rfl (by decide) (by decide) (Nat.le_of_ble_eq_true rfl) ⟨by omega, by omega⟩ rfl ?_
  rw [hf]
  refine V_callSD (nA := 1) C dX8_addPane_6 (c_throwIf0 C.gp) gX8_addPane_X8_throwIf rfl (by decide +kernel) rfl (by decide) (by decide) (Nat.le_of_ble_eq_true rfl) ⟨by omega, by omega⟩ rfl ?_
  refine V_aload_n C dX8_addPane_9 rfl ?_
  refine V_getR C 1 dX8_addPane_10 o8 rfl hin_X8_addPane_X8 (by decide) lk_X8_addPane_19 rfl rfl ?_
  refine V_aload_n C dX8_addPane_13 rfl ?_
  refine V_getR C 0 dX8_addPane_14 o8 rfl hin_X8_addPane_X8 (by decide) lk_X8_addPane_12 rfl rfl ?_
  refine V_callVD (nA := 1) C dX8_addPane_17 (c_push C.gp hD.2.2.1 hD.2.1 (by omega) hW.1 hn hz9) gX8_addPane_X3_push rfl o3 rfl (by decide +kernel) rfl (by decide) (by decide) (Nat.le_of_ble_eq_true rfl) ⟨by omega, by omega⟩ rfl ?_
  refine V_aload_n C dX8_addPane_20 rfl ?_
  refine V_getR C 0 dX8_addPane_21 o8 rfl hin_X8_addPane_X8 (by decide) lk_X8_addPane_12 rfl rfl ?_
  refine V_iload_n C dX8_addPane_24 rfl ?_
  refine V_iload_n C dX8_addPane_25 rfl ?_
  refine V_callVD (nA := 2) C dX8_addPane_26 (c_appendPane C.gp hD.2.1) gX8_addPane_X7_appendPane rfl o7 rfl (by decide +kernel) rfl (by decide) (by decide) (Nat.le_of_ble_eq_true rfl) ⟨by omega, by omega⟩ rfl ?_
  refine V_aload_n C dX8_addPane_29 rfl ?_
  refine V_callVD (nA := 0) C dX8_addPane_30 (k_settle C.gp hD (R32_up (R32_sK (R32_sK hR1 _ _ _ _) _ _ _ _) _ _ (wr_b _)) (lay_bd_off hB1 ((lay_up (by omega) _ _).trans ((lay_sK (by omega) _ _).trans (lay_sK (by omega) _ _)))) (by omega)) gX8_addPane_X8_settle rfl o8 rfl (by decide +kernel) rfl (by decide) (by decide) (Nat.le_of_ble_eq_true rfl) ⟨by omega, by omega⟩ rfl ?_
  refine V_aload_n C dX8_addPane_33 rfl ?_
  refine V_getR C 0 dX8_addPane_34 o8 rfl hin_X8_addPane_X8 (by decide) lk_X8_addPane_12 rfl rfl ?_
  refine V_getNJ C 2 2 rfl (host := "DockTree") dX8_addPane_37 o7 rfl hin_X8_addPane_X7 (by decide) (by decide +kernel) rfl rfl rfl ?_
  refine V_iconst C dX8_addPane_40 ?_
  refine V_isub C dX8_addPane_41 ?_
  refine V_ireturn C E dX8_addPane_42 (by omega) (by omega) ?_
  exact Dt_rfl
-- X8_addPane
theorem x_addPane (hG : GP G) (hGX : GX G) (hl9 : l.stackTraces = false) (hD : DoS S a c h t p b q) (hW : Wo mu c h t p) {x y : Int} (hx : -2147483648 ≤ x ∧ x ≤ 2147483647) (hy : -2147483648 ≤ y ∧ y ≤ 2147483647) (hf : fnF mu c x y = 1 ∨ fnF mu c x y = 2 ∨ fnF mu c x y = 3) : CtX G l yX8_addPane wsX8_addPane 7 [.ref a, .int (I32 x), .int (I32 y)] S n mu la (exn (fnF mu c x y)) := by
  have o8 := hD.1
  have o7 := hD.2.1.1
  refine CtX.ofV (cc := cX8_addPane) (nL := 3) (ret := (some .int)) [some (.ref a), some (.int (I32 x)), some (.int (I32 y))] hG (by decide) rfl (Nat.le_of_ble_eq_true rfl) rfl ?_
  rintro X rfl rfl C hcl hsl hnt E
  refine V_aload_n C dX8_addPane_0 rfl ?_
  refine V_iload_n C dX8_addPane_1 rfl ?_
  refine V_iload_n C dX8_addPane_2 rfl ?_
  refine V_callVD (nA := 2) C dX8_addPane_3 (k_faultOfNewPane C.gp hD hW hx hy) gX8_addPane_X8_faultOfNewPane rfl o8 rfl (by decide +kernel) rfl (by decide) (by decide) (Nat.le_of_ble_eq_true rfl) ⟨by omega, by omega⟩ rfl ?_
  exact V_callSX (nA := 1) C hcl hsl hnt E dX8_addPane_6 (c_throwIfX C.gp hGX hl9 hf) gX8_addPane_X8_throwIf rfl (by decide +kernel) rfl (by omega) (by decide) (Nat.le_of_ble_eq_true rfl) rfl
set_option maxRecDepth 20000 in
theorem ggX8_setLeast_X8_isPane : GoodIn wsX8_setLeast wsX8_isPane := goodIn_r _ [7, 2, 238, 239, 240, 241, 242, 243, 244, 245, 246, 247, 248, 249, 250] (by decide +kernel) (by decide +kernel)
set_option maxRecDepth 20000 in
theorem gX8_setLeast_X8_isPane : GoodIn wsX8_setLeast (wsV RX8 79 RX8 yX8_isPane wsX8_isPane) := goodIn_app (goodIn_of _ (by decide +kernel)) ggX8_setLeast_X8_isPane
set_option maxRecDepth 20000 in
theorem ggX8_setLeast_X8_faultOfLeast : GoodIn wsX8_setLeast wsX8_faultOfLeast := goodIn_r _ [10, 11, 12, 6, 13] (by decide +kernel) (by decide +kernel)
set_option maxRecDepth 20000 in
theorem gX8_setLeast_X8_faultOfLeast : GoodIn wsX8_setLeast (va_wsS RX8 83 yX8_faultOfLeast wsX8_faultOfLeast) := goodIn_app (goodIn_of _ (by decide +kernel)) ggX8_setLeast_X8_faultOfLeast
set_option maxRecDepth 20000 in
theorem ggX8_setLeast_X8_throwIf : GoodIn wsX8_setLeast wsX8_throwIf := goodIn_ca (goodIn_ca (goodIn_ca (goodIn_r _ [16, 17, 18, 19, 20, 21, 22] (by decide +kernel) (by decide +kernel)) (goodIn_sub (fun _ h => List.mem_cons_of_mem _ (List.mem_append_left _ (List.mem_append_left _ (List.mem_append_right _ h)))) (by decide +kernel))) (goodIn_sub (fun _ h => List.mem_cons_of_mem _ (List.mem_append_left _ (List.mem_append_right _ h))) (by decide +kernel))) (goodIn_sub (fun _ h => List.mem_cons_of_mem _ (List.mem_append_right _ h)) (by decide +kernel))
set_option maxRecDepth 20000 in
theorem gX8_setLeast_X8_throwIf : GoodIn wsX8_setLeast (va_wsS RX8 51 yX8_throwIf wsX8_throwIf) := goodIn_app (goodIn_of _ (by decide +kernel)) ggX8_setLeast_X8_throwIf
set_option maxRecDepth 20000 in
theorem ggX8_setLeast_X3_push : GoodIn wsX8_setLeast wsX3_push := goodIn_r _ [27, 28, 29, 30, 31, 32, 33, 34, 35, 36, 26, 37, 38, 39, 40, 41, 42, 43, 44, 45, 46, 47, 48, 49, 50, 6, 51, 52, 53, 54, 55, 56, 57, 58, 59, 60, 61, 62, 63, 64, 65, 66, 67, 68, 69, 70, 71, 72, 73, 74, 75, 76, 77, 78, 79, 80, 251, 252, 253, 244, 245, 246, 247, 248, 249, 250, 254, 255, 256, 257, 258, 259, 260, 261] (by decide +kernel) (by decide +kernel)
set_option maxRecDepth 20000 in
theorem gX8_setLeast_X3_push : GoodIn wsX8_setLeast (wsV RX8 55 RX3 yX3_push wsX3_push) := goodIn_app (goodIn_of _ (by decide +kernel)) ggX8_setLeast_X3_push
set_option maxRecDepth 20000 in
theorem ggX8_setLeast_X7_leastOf : GoodIn wsX8_setLeast wsX7_leastOf := goodIn_r _ [84, 47, 79, 6, 80, 244, 245, 246, 247, 248, 249, 250] (by decide +kernel) (by decide +kernel)
set_option maxRecDepth 20000 in
theorem gX8_setLeast_X7_leastOf : GoodIn wsX8_setLeast (wsV RX8 86 RX7 yX7_leastOf wsX7_leastOf) := goodIn_app (goodIn_of _ (by decide +kernel)) ggX8_setLeast_X7_leastOf
set_option maxRecDepth 20000 in
theorem ggX8_setLeast_X7_changeLeast : GoodIn wsX8_setLeast wsX7_changeLeast := goodIn_r _ [88, 47, 89, 6, 90, 244, 245, 246, 247, 248, 249, 250] (by decide +kernel) (by decide +kernel)
set_option maxRecDepth 20000 in
theorem gX8_setLeast_X7_changeLeast : GoodIn wsX8_setLeast (wsV RX8 89 RX7 yX7_changeLeast wsX7_changeLeast) := goodIn_app (goodIn_of _ (by decide +kernel)) ggX8_setLeast_X7_changeLeast
set_option maxRecDepth 20000 in
theorem ggX8_setLeast_X8_settle : GoodIn wsX8_setLeast wsX8_settle := goodIn_s _ [(94, 2), (2, 1), (96, 21), (60, 1), (117, 1), (62, 1), (79, 1), (6, 1), (80, 1), (118, 4), (63, 1), (89, 2), (122, 14), (64, 1), (136, 9), (32, 1), (145, 5), (67, 1), (150, 9), (68, 1), (159, 4), (69, 1), (163, 35), (65, 1), (198, 53), (262, 13), (254, 8), (275, 6)] (by rfl) (by decide +kernel)
set_option maxRecDepth 20000 in
theorem gX8_setLeast_X8_settle : GoodIn wsX8_setLeast (wsV RX8 66 RX8 yX8_settle wsX8_settle) := goodIn_app (goodIn_of _ (by decide +kernel)) ggX8_setLeast_X8_settle
theorem dX8_setLeast_0 : decode cX8_setLeast 0 = .ok (.aload_n 0, 1) := by decide +kernel
theorem dX8_setLeast_1 : decode cX8_setLeast 1 = .ok (.iload_n 1, 1) := by decide +kernel
theorem dX8_setLeast_2 : decode cX8_setLeast 2 = .ok (.invokevirtual 79, 3) := by decide +kernel
theorem dX8_setLeast_5 : decode cX8_setLeast 5 = .ok (.ifCond .eq 11, 3) := by decide +kernel
theorem dX8_setLeast_8 : decode cX8_setLeast 8 = .ok (.iload_n 2, 1) := by decide +kernel
theorem dX8_setLeast_9 : decode cX8_setLeast 9 = .ok (.iload_n 3, 1) := by decide +kernel
theorem dX8_setLeast_10 : decode cX8_setLeast 10 = .ok (.invokestatic 83, 3) := by decide +kernel
theorem dX8_setLeast_13 : decode cX8_setLeast 13 = .ok (.goto 4, 3) := by decide +kernel
theorem dX8_setLeast_16 : decode cX8_setLeast 16 = .ok (.iconst 1, 1) := by decide +kernel
theorem dX8_setLeast_17 : decode cX8_setLeast 17 = .ok (.invokestatic 51, 3) := by decide +kernel
theorem dX8_setLeast_20 : decode cX8_setLeast 20 = .ok (.aload_n 0, 1) := by decide +kernel
theorem dX8_setLeast_21 : decode cX8_setLeast 21 = .ok (.getfield 19, 3) := by decide +kernel
theorem dX8_setLeast_24 : decode cX8_setLeast 24 = .ok (.aload_n 0, 1) := by decide +kernel
theorem dX8_setLeast_25 : decode cX8_setLeast 25 = .ok (.getfield 12, 3) := by decide +kernel
theorem dX8_setLeast_28 : decode cX8_setLeast 28 = .ok (.invokevirtual 55, 3) := by decide +kernel
theorem dX8_setLeast_31 : decode cX8_setLeast 31 = .ok (.sipush 1000, 3) := by decide +kernel
theorem dX8_setLeast_34 : decode cX8_setLeast 34 = .ok (.aload_n 0, 1) := by decide +kernel
theorem dX8_setLeast_35 : decode cX8_setLeast 35 = .ok (.getfield 12, 3) := by decide +kernel
theorem dX8_setLeast_38 : decode cX8_setLeast 38 = .ok (.iload_n 1, 1) := by decide +kernel
theorem dX8_setLeast_39 : decode cX8_setLeast 39 = .ok (.iconst 0, 1) := by decide +kernel
theorem dX8_setLeast_40 : decode cX8_setLeast 40 = .ok (.invokevirtual 86, 3) := by decide +kernel
theorem dX8_setLeast_43 : decode cX8_setLeast 43 = .ok (.imul, 1) := by decide +kernel
theorem dX8_setLeast_44 : decode cX8_setLeast 44 = .ok (.aload_n 0, 1) := by decide +kernel
theorem dX8_setLeast_45 : decode cX8_setLeast 45 = .ok (.getfield 12, 3) := by decide +kernel
theorem dX8_setLeast_48 : decode cX8_setLeast 48 = .ok (.iload_n 1, 1) := by decide +kernel
theorem dX8_setLeast_49 : decode cX8_setLeast 49 = .ok (.iconst 1, 1) := by decide +kernel
theorem dX8_setLeast_50 : decode cX8_setLeast 50 = .ok (.invokevirtual 86, 3) := by decide +kernel
theorem dX8_setLeast_53 : decode cX8_setLeast 53 = .ok (.iadd, 1) := by decide +kernel
theorem dX8_setLeast_54 : decode cX8_setLeast 54 = .ok (.istore 4, 2) := by decide +kernel
theorem dX8_setLeast_56 : decode cX8_setLeast 56 = .ok (.aload_n 0, 1) := by decide +kernel
theorem dX8_setLeast_57 : decode cX8_setLeast 57 = .ok (.getfield 12, 3) := by decide +kernel
theorem dX8_setLeast_60 : decode cX8_setLeast 60 = .ok (.iload_n 1, 1) := by decide +kernel
theorem dX8_setLeast_61 : decode cX8_setLeast 61 = .ok (.iload_n 2, 1) := by decide +kernel
theorem dX8_setLeast_62 : decode cX8_setLeast 62 = .ok (.iload_n 3, 1) := by decide +kernel
theorem dX8_setLeast_63 : decode cX8_setLeast 63 = .ok (.invokevirtual 89, 3) := by decide +kernel
theorem dX8_setLeast_66 : decode cX8_setLeast 66 = .ok (.aload_n 0, 1) := by decide +kernel
theorem dX8_setLeast_67 : decode cX8_setLeast 67 = .ok (.invokevirtual 66, 3) := by decide +kernel
theorem dX8_setLeast_70 : decode cX8_setLeast 70 = .ok (.iload 4, 2) := by decide +kernel
theorem dX8_setLeast_72 : decode cX8_setLeast 72 = .ok (.ireturn, 1) := by decide +kernel
theorem hin_X8_setLeast_X8 : ∀ w ∈ wsX80, w ∈ wsX8_setLeast := by decide +kernel
theorem lk_X8_setLeast_19 : Cond.fieldLink RX8 19 RX8 "history" "LDockTree$History;" ∈ wsX8_setLeast := by decide +kernel
theorem lk_X8_setLeast_12 : Cond.fieldLink RX8 12 RX8 "now" "LDockTree$State;" ∈ wsX8_setLeast := by decide +kernel
theorem k_setLeast (hG : GP G) (hD : DoS S a c h t p b q) (hW : Wo mu c h t p) {x y z : Int} (hx : -2147483648 ≤ x ∧ x ≤ 2147483647) (hy : -2147483648 ≤ y ∧ y ≤ 2147483647) (hz : -2147483648 ≤ z ∧ z ≤ 2147483647) (hf : slF mu c x y z = 0) : Ct G l yX8_setLeast wsX8_setLeast 6 0 0 [.ref a, .int (I32 x), .int (I32 y), .int (I32 z)] S n mu la (Dt (some (.int (I32 (1000 * gK (pshM mu c h) (c + 1) 32 (2 * x + 0) + gK (pshM mu c h) (c + 1) 32 (2 * x + 1))))) S n (stlM (clM (pshM mu c h) c x y z) p c) la) := by
  have o8 := hD.1
  have o7 := hD.2.1.1
  have o3 := hD.2.2.1.1
  have o5 := hD.2.2.2.2.1.1
  have o4 := hD.2.1.2.2.1.1
  have dj := hD.2.2.2.2.2.2.2
  have hn := hW.2.2.2.1
  have hz9 := hW.2.2.2.2.1
  have hR1 := R32_pshM (c := c) hW.1 hn hz9
  have l1 : lay (pshM mu c h) (c + 2) = lay mu (c + 2) := lay_psh hn (by omega)
  have hB1 : Bd 16000000 (lay (pshM mu c h) (c + 2)) := by rw [l1]; exact hW.2.1
  have b1 := pnF_b mu c x
  have hf1 : pnF mu c x = 1 := by unfold slF at hf; split at hf <;> omega
  have hf2 : feF y z = 0 := by rw [slF, if_pos hf1] at hf; exact hf
  refine Ct.ofV (cc := cX8_setLeast) (nL := 5) (ret := (some .int)) [some (.ref a), some (.int (I32 x)), some (.int (I32 y)), some (.int (I32 z)), none] hG (by decide) rfl (Nat.le_of_ble_eq_true rfl) rfl ?_
  rintro X rfl rfl C hcl hsl E
  refine V_aload_n C dX8_setLeast_0 rfl ?_
  refine V_iload_n C dX8_setLeast_1 rfl ?_
  refine V_callVD (nA := 1) C dX8_setLeast_2 (k_isPane C.gp hD hW hx) gX8_setLeast_X8_isPane rfl o8 rfl (by decide +kernel) rfl (by decide) (by decide) (Nat.le_of_ble_eq_true rfl) ⟨by omega, by omega⟩ rfl ?_
  refine V_if_eq C 16 dX8_setLeast_5 (by decide) (by omega) (fun z5 => ?_) (fun z5 => ?_)
  · exact absurd z5 (by first | omega | decide)
  · refine V_iload_n C dX8_setLeast_8 rfl ?_
    refine V_iload_n C dX8_setLeast_9 rfl ?_
    refine V_callSD (nA := 2) C dX8_setLeast_10 (k_faultOfLeast C.gp hy hz) gX8_setLeast_X8_faultOfLeast rfl (by decide +kernel) rfl (by decide) (by decide) (Nat.le_of_ble_eq_true rfl) ⟨by omega, by omega⟩ rfl ?_
    refine V_goto C 17 dX8_setLeast_13 (by decide) ?_
    rw [hf2]
    refine V_callSD (nA := 1) C dX8_setLeast_17 (c_throwIf0 C.gp) gX8_setLeast_X8_throwIf rfl (by decide +kernel) rfl (by decide) (by decide) (Nat.le_of_ble_eq_true rfl) ⟨by omega, by omega⟩ rfl ?_
    refine V_aload_n C dX8_setLeast_20 rfl ?_
    refine V_getR C 1 dX8_setLeast_21 o8 rfl hin_X8_setLeast_X8 (by decide) lk_X8_setLeast_19 rfl rfl ?_
    refine V_aload_n C dX8_setLeast_24 rfl ?_
    refine V_getR C 0 dX8_setLeast_25 o8 rfl hin_X8_setLeast_X8 (by decide) lk_X8_setLeast_12 rfl rfl ?_
    refine V_callVD (nA := 1) C dX8_setLeast_28 (c_push C.gp hD.2.2.1 hD.2.1 (by omega) hW.1 hn hz9) gX8_setLeast_X3_push rfl o3 rfl (by decide +kernel) rfl (by decide) (by decide) (Nat.le_of_ble_eq_true rfl) ⟨by omega, by omega⟩ rfl ?_
    refine V_sipush C dX8_setLeast_31 (by decide +kernel) ?_
    refine V_aload_n C dX8_setLeast_34 rfl ?_
    refine V_getR C 0 dX8_setLeast_35 o8 rfl hin_X8_setLeast_X8 (by decide) lk_X8_setLeast_12 rfl rfl ?_
    refine V_iload_n C dX8_setLeast_38 rfl ?_
    refine V_iconst C dX8_setLeast_39 ?_
    refine V_callVD (nA := 2) C dX8_setLeast_40 (c_stLeast C.gp hD.2.1) gX8_setLeast_X7_leastOf rfl o7 rfl (by decide +kernel) rfl (by decide) (by decide) (Nat.le_of_ble_eq_true rfl) ⟨by omega, by omega⟩ rfl ?_
    refine V_imul C dX8_setLeast_43 ?_
    refine V_aload_n C dX8_setLeast_44 rfl ?_
    refine V_getR C 0 dX8_setLeast_45 o8 rfl hin_X8_setLeast_X8 (by decide) lk_X8_setLeast_12 rfl rfl ?_
    refine V_iload_n C dX8_setLeast_48 rfl ?_
    refine V_iconst C dX8_setLeast_49 ?_
    refine V_callVD (nA := 2) C dX8_setLeast_50 (c_stLeast C.gp hD.2.1) gX8_setLeast_X7_leastOf rfl o7 rfl (by decide +kernel) rfl (by decide) (by decide) (Nat.le_of_ble_eq_true rfl) ⟨by omega, by omega⟩ rfl ?_
    refine V_iadd C dX8_setLeast_53 ?_
    refine V_istore C dX8_setLeast_54 rfl (by decide) ?_
    refine V_aload_n C dX8_setLeast_56 rfl ?_
    refine V_getR C 0 dX8_setLeast_57 o8 rfl hin_X8_setLeast_X8 (by decide) lk_X8_setLeast_12 rfl rfl ?_
    refine V_iload_n C dX8_setLeast_60 rfl ?_
    refine V_iload_n C dX8_setLeast_61 rfl ?_
    refine V_iload_n C dX8_setLeast_62 rfl ?_
    refine V_callVD (nA := 3) C dX8_setLeast_63 (c_changeLeast C.gp hD.2.1) gX8_setLeast_X7_changeLeast rfl o7 rfl (by decide +kernel) rfl (by decide) (by decide) (Nat.le_of_ble_eq_true rfl) ⟨by omega, by omega⟩ rfl ?_
    refine V_aload_n C dX8_setLeast_66 rfl ?_
    refine V_callVD (nA := 0) C dX8_setLeast_67 (k_settle C.gp hD (R32_sK (R32_sK hR1 _ _ _ _) _ _ _ _) (lay_bd_off hB1 ((lay_sK (by omega) _ _).trans (lay_sK (by omega) _ _))) (by omega)) gX8_setLeast_X8_settle rfl o8 rfl (by decide +kernel) rfl (by decide) (by decide) (Nat.le_of_ble_eq_true rfl) ⟨by omega, by omega⟩ rfl ?_
    refine V_iload C dX8_setLeast_70 rfl ?_
    refine V_ireturn C E dX8_setLeast_72 (by omega) (by omega) ?_
    exact Dt_rfl
-- X8_setLeast
theorem x_setLeast (hG : GP G) (hGX : GX G) (hl9 : l.stackTraces = false) (hD : DoS S a c h t p b q) (hW : Wo mu c h t p) {x y z : Int} (hx : -2147483648 ≤ x ∧ x ≤ 2147483647) (hy : -2147483648 ≤ y ∧ y ≤ 2147483647) (hz : -2147483648 ≤ z ∧ z ≤ 2147483647) (hf : slF mu c x y z = 1 ∨ slF mu c x y z = 2 ∨ slF mu c x y z = 3) : CtX G l yX8_setLeast wsX8_setLeast 7 [.ref a, .int (I32 x), .int (I32 y), .int (I32 z)] S n mu la (exn (slF mu c x y z)) := by
  have o8 := hD.1
  have o7 := hD.2.1.1
  have b1 := pnF_b mu c x
  refine CtX.ofV (cc := cX8_setLeast) (nL := 5) (ret := (some .int)) [some (.ref a), some (.int (I32 x)), some (.int (I32 y)), some (.int (I32 z)), none] hG (by decide) rfl (Nat.le_of_ble_eq_true rfl) rfl ?_
  rintro X rfl rfl C hcl hsl hnt E
  refine V_aload_n C dX8_setLeast_0 rfl ?_
  refine V_iload_n C dX8_setLeast_1 rfl ?_
  refine V_callVD (nA := 1) C dX8_setLeast_2 (k_isPane C.gp hD hW hx) gX8_setLeast_X8_isPane rfl o8 rfl (by decide +kernel) rfl (by decide) (by decide) (Nat.le_of_ble_eq_true rfl) ⟨by omega, by omega⟩ rfl ?_
  refine V_if_eq C 16 dX8_setLeast_5 (by decide) (by omega) (fun z5 => ?_) (fun z5 => ?_)
  · refine V_iconst C dX8_setLeast_16 ?_
    first | (rw [slF, if_pos (show pnF mu c x = 1 by omega)] at hf E ; exact V_callSX (nA := 1) C hcl hsl hnt E dX8_setLeast_17 (c_throwIfX C.gp hGX hl9 hf) gX8_setLeast_X8_throwIf rfl (by decide +kernel) rfl (by omega) (by decide) (Nat.le_of_ble_eq_true rfl) rfl ) | (rw [slF, if_neg (show ¬ pnF mu c x = 1 by omega)] at hf E ; exact V_callSX (nA := 1) C hcl hsl hnt E dX8_setLeast_17 (c_throwIfX C.gp hGX hl9 hf) gX8_setLeast_X8_throwIf rfl (by decide +kernel) rfl (by omega) (by decide) (Nat.le_of_ble_eq_true rfl) rfl )
  · refine V_iload_n C dX8_setLeast_8 rfl ?_
    refine V_iload_n C dX8_setLeast_9 rfl ?_
    refine V_callSD (nA := 2) C dX8_setLeast_10 (k_faultOfLeast C.gp hy hz) gX8_setLeast_X8_faultOfLeast rfl (by decide +kernel) rfl (by decide) (by decide) (Nat.le_of_ble_eq_true rfl) ⟨by omega, by omega⟩ rfl ?_
    refine V_goto C 17 dX8_setLeast_13 (by decide) ?_
    first | (rw [slF, if_pos (show pnF mu c x = 1 by omega)] at hf E ; exact V_callSX (nA := 1) C hcl hsl hnt E dX8_setLeast_17 (c_throwIfX C.gp hGX hl9 hf) gX8_setLeast_X8_throwIf rfl (by decide +kernel) rfl (by omega) (by decide) (Nat.le_of_ble_eq_true rfl) rfl ) | (rw [slF, if_neg (show ¬ pnF mu c x = 1 by omega)] at hf E ; exact V_callSX (nA := 1) C hcl hsl hnt E dX8_setLeast_17 (c_throwIfX C.gp hGX hl9 hf) gX8_setLeast_X8_throwIf rfl (by decide +kernel) rfl (by omega) (by decide) (Nat.le_of_ble_eq_true rfl) rfl )
set_option maxRecDepth 20000 in
theorem ggX8_dock_X8_faultOfDocking : GoodIn wsX8_dock wsX8_faultOfDocking := goodIn_r _ [7, 2, 8, 9, 10, 6, 11, 12, 13, 14, 15, 16, 17, 18, 19, 294, 295, 296, 297, 298, 299, 300, 301, 302, 303, 304, 305, 306, 307, 308, 309, 310, 311, 312, 313, 314] (by decide +kernel) (by decide +kernel)
set_option maxRecDepth 20000 in
theorem gX8_dock_X8_faultOfDocking : GoodIn wsX8_dock (wsV RX8 93 RX8 yX8_faultOfDocking wsX8_faultOfDocking) := goodIn_app (goodIn_of _ (by decide +kernel)) ggX8_dock_X8_faultOfDocking
set_option maxRecDepth 20000 in
theorem ggX8_dock_X8_throwIf : GoodIn wsX8_dock wsX8_throwIf := goodIn_ca (goodIn_ca (goodIn_ca (goodIn_r _ [22, 23, 24, 25, 26, 27, 28] (by decide +kernel) (by decide +kernel)) (goodIn_sub (fun _ h => List.mem_cons_of_mem _ (List.mem_append_left _ (List.mem_append_left _ (List.mem_append_right _ h)))) (by decide +kernel))) (goodIn_sub (fun _ h => List.mem_cons_of_mem _ (List.mem_append_left _ (List.mem_append_right _ h))) (by decide +kernel))) (goodIn_sub (fun _ h => List.mem_cons_of_mem _ (List.mem_append_right _ h)) (by decide +kernel))
set_option maxRecDepth 20000 in
theorem gX8_dock_X8_throwIf : GoodIn wsX8_dock (va_wsS RX8 51 yX8_throwIf wsX8_throwIf) := goodIn_app (goodIn_of _ (by decide +kernel)) ggX8_dock_X8_throwIf
set_option maxRecDepth 20000 in
theorem ggX8_dock_X3_push : GoodIn wsX8_dock wsX3_push := goodIn_r _ [33, 34, 35, 36, 37, 38, 39, 40, 41, 42, 32, 43, 44, 45, 46, 47, 48, 49, 50, 51, 52, 53, 54, 55, 56, 6, 57, 58, 59, 60, 61, 62, 63, 64, 65, 15, 66, 17, 67, 68, 69, 70, 71, 72, 73, 74, 75, 76, 77, 78, 79, 80, 81, 82, 18, 19, 315, 316, 317, 300, 301, 302, 303, 304, 305, 306, 307, 308, 309, 310, 311, 312, 313, 314] (by decide +kernel) (by decide +kernel)
set_option maxRecDepth 20000 in
theorem gX8_dock_X3_push : GoodIn wsX8_dock (wsV RX8 55 RX3 yX3_push wsX3_push) := goodIn_app (goodIn_of _ (by decide +kernel)) ggX8_dock_X3_push
set_option maxRecDepth 20000 in
theorem ggX8_dock_X4_dockAt : GoodIn wsX8_dock wsX4_dockAt := goodIn_r _ [86, 17, 68, 87, 88, 89, 15, 90, 67, 91, 37, 38, 39, 18, 6, 19, 92, 93, 94, 95, 96, 97, 98, 99, 100, 101, 102, 103, 104, 105, 106, 107, 108, 109, 110, 111, 69, 112, 113, 114, 115, 70, 116, 117, 118, 119, 120, 121, 122, 123, 124, 125, 126, 127, 128, 129, 130, 131, 132, 133, 134, 135, 136, 137, 138, 139, 71, 140, 141, 142, 143, 144, 145, 146, 147, 148, 149, 307, 308, 309, 310, 311, 312, 313, 314] (by decide +kernel) (by decide +kernel)
set_option maxRecDepth 20000 in
theorem gX8_dock_X4_dockAt : GoodIn wsX8_dock (wsV RX8 100 RX4 yX4_dockAt wsX4_dockAt) := goodIn_app (goodIn_of _ (by decide +kernel)) ggX8_dock_X4_dockAt
set_option maxRecDepth 20000 in
theorem ggX8_dock_X8_settle : GoodIn wsX8_dock wsX8_settle := goodIn_s _ [(153, 2), (2, 1), (155, 21), (15, 1), (176, 1), (17, 2), (6, 1), (19, 1), (177, 4), (67, 1), (96, 2), (181, 14), (68, 1), (102, 2), (195, 7), (38, 1), (202, 2), (137, 3), (71, 1), (204, 9), (72, 1), (213, 4), (73, 1), (217, 35), (69, 1), (252, 40), (294, 13), (318, 13), (307, 8), (331, 6)] (by rfl) (by decide +kernel)
set_option maxRecDepth 20000 in
theorem gX8_dock_X8_settle : GoodIn wsX8_dock (wsV RX8 66 RX8 yX8_settle wsX8_settle) := goodIn_app (goodIn_of _ (by decide +kernel)) ggX8_dock_X8_settle
set_option maxRecDepth 20000 in
theorem ggX8_dock_X4_holderOf : GoodIn wsX8_dock wsX4_holderOf := goodIn_r _ [176, 17, 18, 6, 19, 307, 308, 309, 310, 311, 312, 313, 314] (by decide +kernel) (by decide +kernel)
set_option maxRecDepth 20000 in
theorem gX8_dock_X4_holderOf : GoodIn wsX8_dock (wsV RX8 103 RX4 yX4_holderOf wsX4_holderOf) := goodIn_app (goodIn_of _ (by decide +kernel)) ggX8_dock_X4_holderOf
set_option maxRecDepth 20000 in
theorem ggX8_dock_X4_countOf : GoodIn wsX8_dock wsX4_countOf := goodIn_r _ [194, 68, 18, 6, 19, 307, 308, 309, 310, 311, 312, 313, 314] (by decide +kernel) (by decide +kernel)
set_option maxRecDepth 20000 in
theorem gX8_dock_X4_countOf : GoodIn wsX8_dock (wsV RX8 107 RX4 yX4_countOf wsX4_countOf) := goodIn_app (goodIn_of _ (by decide +kernel)) ggX8_dock_X4_countOf
theorem dX8_dock_0 : decode cX8_dock 0 = .ok (.aload_n 0, 1) := by decide +kernel
theorem dX8_dock_1 : decode cX8_dock 1 = .ok (.iload_n 1, 1) := by decide +kernel
theorem dX8_dock_2 : decode cX8_dock 2 = .ok (.iload_n 2, 1) := by decide +kernel
theorem dX8_dock_3 : decode cX8_dock 3 = .ok (.iload_n 3, 1) := by decide +kernel
theorem dX8_dock_4 : decode cX8_dock 4 = .ok (.invokevirtual 93, 3) := by decide +kernel
theorem dX8_dock_7 : decode cX8_dock 7 = .ok (.invokestatic 51, 3) := by decide +kernel
theorem dX8_dock_10 : decode cX8_dock 10 = .ok (.aload_n 0, 1) := by decide +kernel
theorem dX8_dock_11 : decode cX8_dock 11 = .ok (.getfield 19, 3) := by decide +kernel
theorem dX8_dock_14 : decode cX8_dock 14 = .ok (.aload_n 0, 1) := by decide +kernel
theorem dX8_dock_15 : decode cX8_dock 15 = .ok (.getfield 12, 3) := by decide +kernel
theorem dX8_dock_18 : decode cX8_dock 18 = .ok (.invokevirtual 55, 3) := by decide +kernel
theorem dX8_dock_21 : decode cX8_dock 21 = .ok (.aload_n 0, 1) := by decide +kernel
theorem dX8_dock_22 : decode cX8_dock 22 = .ok (.getfield 12, 3) := by decide +kernel
theorem dX8_dock_25 : decode cX8_dock 25 = .ok (.getfield 97, 3) := by decide +kernel
theorem dX8_dock_28 : decode cX8_dock 28 = .ok (.iload_n 1, 1) := by decide +kernel
theorem dX8_dock_29 : decode cX8_dock 29 = .ok (.iload_n 2, 1) := by decide +kernel
theorem dX8_dock_30 : decode cX8_dock 30 = .ok (.iload_n 3, 1) := by decide +kernel
theorem dX8_dock_31 : decode cX8_dock 31 = .ok (.invokevirtual 100, 3) := by decide +kernel
theorem dX8_dock_34 : decode cX8_dock 34 = .ok (.aload_n 0, 1) := by decide +kernel
theorem dX8_dock_35 : decode cX8_dock 35 = .ok (.invokevirtual 66, 3) := by decide +kernel
theorem dX8_dock_38 : decode cX8_dock 38 = .ok (.aload_n 0, 1) := by decide +kernel
theorem dX8_dock_39 : decode cX8_dock 39 = .ok (.getfield 12, 3) := by decide +kernel
theorem dX8_dock_42 : decode cX8_dock 42 = .ok (.getfield 97, 3) := by decide +kernel
theorem dX8_dock_45 : decode cX8_dock 45 = .ok (.aload_n 0, 1) := by decide +kernel
theorem dX8_dock_46 : decode cX8_dock 46 = .ok (.getfield 12, 3) := by decide +kernel
theorem dX8_dock_49 : decode cX8_dock 49 = .ok (.getfield 97, 3) := by decide +kernel
theorem dX8_dock_52 : decode cX8_dock 52 = .ok (.iload_n 1, 1) := by decide +kernel
theorem dX8_dock_53 : decode cX8_dock 53 = .ok (.invokevirtual 103, 3) := by decide +kernel
theorem dX8_dock_56 : decode cX8_dock 56 = .ok (.invokevirtual 107, 3) := by decide +kernel
theorem dX8_dock_59 : decode cX8_dock 59 = .ok (.ireturn, 1) := by decide +kernel
theorem hin_X8_dock_X8 : ∀ w ∈ wsX80, w ∈ wsX8_dock := by decide +kernel
theorem lk_X8_dock_19 : Cond.fieldLink RX8 19 RX8 "history" "LDockTree$History;" ∈ wsX8_dock := by decide +kernel
theorem lk_X8_dock_12 : Cond.fieldLink RX8 12 RX8 "now" "LDockTree$State;" ∈ wsX8_dock := by decide +kernel
theorem hin_X8_dock_X7 : ∀ w ∈ wsX70, w ∈ wsX8_dock := by decide +kernel
theorem k_dock (hG : GP G) (hD : DoS S a c h t p b q) (hW : Wo mu c h t p) {x y z : Int} (hx : -2147483648 ≤ x ∧ x ≤ 2147483647) (hy : -2147483648 ≤ y ∧ y ≤ 2147483647) (hz : -2147483648 ≤ z ∧ z ≤ 2147483647) (hf : fdF mu c x y z = 0) : Ct G l yX8_dock wsX8_dock 6 0 0 [.ref a, .int (I32 x), .int (I32 y), .int (I32 z)] S n mu la (Dt (some (.int (I32 (gL (lay (stlM (putL (pshM mu c h) (c + 2) (dkF (lay (pshM mu c h) (c + 2)) x y z)) p c) (c + 2)) 2 (gL (lay (stlM (putL (pshM mu c h) (c + 2) (dkF (lay (pshM mu c h) (c + 2)) x y z)) p c) (c + 2)) 0 x))))) S n (stlM (putL (pshM mu c h) (c + 2) (dkF (lay (pshM mu c h) (c + 2)) x y z)) p c) la) := by
  have o8 := hD.1
  have o7 := hD.2.1.1
  have o3 := hD.2.2.1.1
  have o5 := hD.2.2.2.2.1.1
  have o4 := hD.2.1.2.2.1.1
  have dj := hD.2.2.2.2.2.2.2
  have hn := hW.2.2.2.1
  have hz9 := hW.2.2.2.2.1
  have hR1 := R32_pshM (c := c) hW.1 hn hz9
  have l1 : lay (pshM mu c h) (c + 2) = lay mu (c + 2) := lay_psh hn (by omega)
  have hB1 : Bd 16000000 (lay (pshM mu c h) (c + 2)) := by rw [l1]; exact hW.2.1
  have f0 := fdF_0 hf hW.2.2.1.2
  have hB3 := dkF_bd (p := x) hB1 (by omega) (by omega) y z
  refine Ct.ofV (cc := cX8_dock) (nL := 4) (ret := (some .int)) [some (.ref a), some (.int (I32 x)), some (.int (I32 y)), some (.int (I32 z))] hG (by decide) rfl (Nat.le_of_ble_eq_true rfl) rfl ?_
  rintro X rfl rfl C hcl hsl E
  refine V_aload_n C dX8_dock_0 rfl ?_
  refine V_iload_n C dX8_dock_1 rfl ?_
  refine V_iload_n C dX8_dock_2 rfl ?_
  refine V_iload_n C dX8_dock_3 rfl ?_
  refine V_callVD (nA := 3) C dX8_dock_4 (k_faultOfDocking C.gp hD hW hx hy hz) gX8_dock_X8_faultOfDocking rfl o8 rfl (by decide +kernel) rfl (by decide) (by decide) (Nat.le_of_ble_eq_true rfl) ⟨by omega, by omega⟩ rfl ?_
  rw [hf]
  refine V_callSD (nA := 1) C dX8_dock_7 (c_throwIf0 C.gp) gX8_dock_X8_throwIf rfl (by decide +kernel) rfl (by decide) (by decide) (Nat.le_of_ble_eq_true rfl) ⟨by omega, by omega⟩ rfl ?_
  refine V_aload_n C dX8_dock_10 rfl ?_
  refine V_getR C 1 dX8_dock_11 o8 rfl hin_X8_dock_X8 (by decide) lk_X8_dock_19 rfl rfl ?_
  refine V_aload_n C dX8_dock_14 rfl ?_
  refine V_getR C 0 dX8_dock_15 o8 rfl hin_X8_dock_X8 (by decide) lk_X8_dock_12 rfl rfl ?_
  refine V_callVD (nA := 1) C dX8_dock_18 (c_push C.gp hD.2.2.1 hD.2.1 (by omega) hW.1 hn hz9) gX8_dock_X3_push rfl o3 rfl (by decide +kernel) rfl (by decide) (by decide) (Nat.le_of_ble_eq_true rfl) ⟨by omega, by omega⟩ rfl ?_
  refine V_aload_n C dX8_dock_21 rfl ?_
  refine V_getR C 0 dX8_dock_22 o8 rfl hin_X8_dock_X8 (by decide) lk_X8_dock_12 rfl rfl ?_
  refine V_getNR C 4 (host := "DockTree") dX8_dock_25 o7 rfl hin_X8_dock_X7 (by decide) (by decide +kernel) rfl rfl ?_
  refine V_iload_n C dX8_dock_28 rfl ?_
  refine V_iload_n C dX8_dock_29 rfl ?_
  refine V_iload_n C dX8_dock_30 rfl ?_
  refine V_callVD (nA := 3) C dX8_dock_31 (w_dockAt C.gp hD.2.1.2.2.1 hB1 (by omega) (by omega) (by omega) (by omega)) gX8_dock_X4_dockAt rfl o4 rfl (by decide +kernel) rfl (by decide) (by decide) (Nat.le_of_ble_eq_true rfl) ⟨by omega, by omega⟩ rfl ?_
  refine V_aload_n C dX8_dock_34 rfl ?_
  refine V_callVD (nA := 0) C dX8_dock_35 (k_settle C.gp hD (R32_putL hR1 (hB3.r32 (by omega))) (lay_putL_bd (by omega) hB3) (by omega)) gX8_dock_X8_settle rfl o8 rfl (by decide +kernel) rfl (by decide) (by decide) (Nat.le_of_ble_eq_true rfl) ⟨by omega, by omega⟩ rfl ?_
  refine V_aload_n C dX8_dock_38 rfl ?_
  refine V_getR C 0 dX8_dock_39 o8 rfl hin_X8_dock_X8 (by decide) lk_X8_dock_12 rfl rfl ?_
  refine V_getNR C 4 (host := "DockTree") dX8_dock_42 o7 rfl hin_X8_dock_X7 (by decide) (by decide +kernel) rfl rfl ?_
  refine V_aload_n C dX8_dock_45 rfl ?_
  refine V_getR C 0 dX8_dock_46 o8 rfl hin_X8_dock_X8 (by decide) lk_X8_dock_12 rfl rfl ?_
  refine V_getNR C 4 (host := "DockTree") dX8_dock_49 o7 rfl hin_X8_dock_X7 (by decide) (by decide +kernel) rfl rfl ?_
  refine V_iload_n C dX8_dock_52 rfl ?_
  refine V_callVD (nA := 1) C dX8_dock_53 (w_holderOf C.gp hD.2.1.2.2.1) gX8_dock_X4_holderOf rfl o4 rfl (by decide +kernel) rfl (by decide) (by decide) (Nat.le_of_ble_eq_true rfl) ⟨by omega, by omega⟩ rfl ?_
  refine V_callVD (nA := 1) C dX8_dock_56 (w_countOf C.gp hD.2.1.2.2.1) gX8_dock_X4_countOf rfl o4 rfl (by decide +kernel) rfl (by decide) (by decide) (Nat.le_of_ble_eq_true rfl) ⟨by omega, by omega⟩ rfl ?_
  refine V_ireturn C E dX8_dock_59 (by omega) (by omega) ?_
  exact Dt_rfl
-- X8_dock
theorem x_dock (hG : GP G) (hGX : GX G) (hl9 : l.stackTraces = false) (hD : DoS S a c h t p b q) (hW : Wo mu c h t p) {x y z : Int} (hx : -2147483648 ≤ x ∧ x ≤ 2147483647) (hy : -2147483648 ≤ y ∧ y ≤ 2147483647) (hz : -2147483648 ≤ z ∧ z ≤ 2147483647) (hf : fdF mu c x y z = 1 ∨ fdF mu c x y z = 2 ∨ fdF mu c x y z = 3) : CtX G l yX8_dock wsX8_dock 7 [.ref a, .int (I32 x), .int (I32 y), .int (I32 z)] S n mu la (exn (fdF mu c x y z)) := by
  have o8 := hD.1
  have o7 := hD.2.1.1
  refine CtX.ofV (cc := cX8_dock) (nL := 4) (ret := (some .int)) [some (.ref a), some (.int (I32 x)), some (.int (I32 y)), some (.int (I32 z))] hG (by decide) rfl (Nat.le_of_ble_eq_true rfl) rfl ?_
  rintro X rfl rfl C hcl hsl hnt E
  refine V_aload_n C dX8_dock_0 rfl ?_
  refine V_iload_n C dX8_dock_1 rfl ?_
  refine V_iload_n C dX8_dock_2 rfl ?_
  refine V_iload_n C dX8_dock_3 rfl ?_
  refine V_callVD (nA := 3) C dX8_dock_4 (k_faultOfDocking C.gp hD hW hx hy hz) gX8_dock_X8_faultOfDocking rfl o8 rfl (by decide +kernel) rfl (by decide) (by decide) (Nat.le_of_ble_eq_true rfl) ⟨by omega, by omega⟩ rfl ?_
  exact V_callSX (nA := 1) C hcl hsl hnt E dX8_dock_7 (c_throwIfX C.gp hGX hl9 hf) gX8_dock_X8_throwIf rfl (by decide +kernel) rfl (by omega) (by decide) (Nat.le_of_ble_eq_true rfl) rfl
set_option maxRecDepth 20000 in
theorem ggX8_dockAtEdge_X8_faultOfEdge : GoodIn wsX8_dockAtEdge wsX8_faultOfEdge := goodIn_r _ [8, 9, 10, 11, 7, 12, 2, 13, 14, 15, 295, 296, 297, 298, 299, 300, 301, 302, 303, 304, 305, 306, 307] (by decide +kernel) (by decide +kernel)
set_option maxRecDepth 20000 in
theorem gX8_dockAtEdge_X8_faultOfEdge : GoodIn wsX8_dockAtEdge (wsV RX8 110 RX8 yX8_faultOfEdge wsX8_faultOfEdge) := goodIn_app (goodIn_of _ (by decide +kernel)) ggX8_dockAtEdge_X8_faultOfEdge
set_option maxRecDepth 20000 in
theorem ggX8_dockAtEdge_X8_throwIf : GoodIn wsX8_dockAtEdge wsX8_throwIf := goodIn_ca (goodIn_ca (goodIn_ca (goodIn_r _ [18, 19, 20, 21, 22, 23, 24] (by decide +kernel) (by decide +kernel)) (goodIn_sub (fun _ h => List.mem_cons_of_mem _ (List.mem_append_left _ (List.mem_append_left _ (List.mem_append_right _ h)))) (by decide +kernel))) (goodIn_sub (fun _ h => List.mem_cons_of_mem _ (List.mem_append_left _ (List.mem_append_right _ h))) (by decide +kernel))) (goodIn_sub (fun _ h => List.mem_cons_of_mem _ (List.mem_append_right _ h)) (by decide +kernel))
set_option maxRecDepth 20000 in
theorem gX8_dockAtEdge_X8_throwIf : GoodIn wsX8_dockAtEdge (va_wsS RX8 51 yX8_throwIf wsX8_throwIf) := goodIn_app (goodIn_of _ (by decide +kernel)) ggX8_dockAtEdge_X8_throwIf
set_option maxRecDepth 20000 in
theorem ggX8_dockAtEdge_X3_push : GoodIn wsX8_dockAtEdge wsX3_push := goodIn_r _ [29, 30, 31, 32, 33, 34, 35, 36, 37, 38, 28, 39, 40, 41, 42, 43, 44, 45, 46, 47, 48, 49, 50, 51, 52, 7, 53, 54, 55, 56, 57, 58, 59, 60, 61, 62, 63, 64, 65, 66, 67, 68, 69, 70, 71, 72, 73, 74, 75, 76, 77, 78, 79, 80, 81, 82, 308, 309, 310, 301, 302, 303, 304, 305, 306, 307, 311, 312, 313, 314, 315, 316, 317, 318] (by decide +kernel) (by decide +kernel)
set_option maxRecDepth 20000 in
theorem gX8_dockAtEdge_X3_push : GoodIn wsX8_dockAtEdge (wsV RX8 55 RX3 yX3_push wsX3_push) := goodIn_app (goodIn_of _ (by decide +kernel)) ggX8_dockAtEdge_X3_push
set_option maxRecDepth 20000 in
theorem ggX8_dockAtEdge_X4_dockAtWindow : GoodIn wsX8_dockAtEdge wsX4_dockAtWindow := goodIn_r _ [86, 66, 87, 88, 89, 62, 90, 64, 65, 91, 33, 34, 35, 81, 7, 82, 92, 93, 94, 95, 96, 97, 98, 99, 100, 101, 102, 103, 104, 105, 106, 107, 108, 109, 110, 111, 67, 112, 113, 114, 115, 68, 116, 117, 118, 119, 120, 121, 122, 123, 124, 125, 126, 127, 128, 129, 130, 131, 132, 133, 134, 135, 69, 136, 137, 138, 139, 140, 141, 142, 143, 144, 145, 146, 147, 148, 149, 311, 312, 313, 314, 315, 316, 317, 318] (by decide +kernel) (by decide +kernel)
set_option maxRecDepth 20000 in
theorem gX8_dockAtEdge_X4_dockAtWindow : GoodIn wsX8_dockAtEdge (wsV RX8 113 RX4 yX4_dockAtWindow wsX4_dockAtWindow) := goodIn_app (goodIn_of _ (by decide +kernel)) ggX8_dockAtEdge_X4_dockAtWindow
set_option maxRecDepth 20000 in
theorem ggX8_dockAtEdge_X8_settle : GoodIn wsX8_dockAtEdge wsX8_settle := goodIn_s _ [(153, 1), (3, 1), (2, 1), (154, 21), (62, 1), (175, 1), (64, 1), (81, 1), (7, 1), (82, 1), (176, 4), (65, 1), (96, 2), (180, 14), (66, 1), (102, 2), (194, 7), (34, 1), (201, 2), (133, 3), (69, 1), (203, 9), (70, 1), (212, 4), (71, 1), (216, 35), (67, 1), (251, 40), (295, 13), (319, 13), (311, 8), (332, 6)] (by rfl) (by decide +kernel)
set_option maxRecDepth 20000 in
theorem gX8_dockAtEdge_X8_settle : GoodIn wsX8_dockAtEdge (wsV RX8 66 RX8 yX8_settle wsX8_settle) := goodIn_app (goodIn_of _ (by decide +kernel)) ggX8_dockAtEdge_X8_settle
set_option maxRecDepth 20000 in
theorem ggX8_dockAtEdge_X5_groups : GoodIn wsX8_dockAtEdge wsX5_groups := goodIn_r _ [294, 159, 184, 319, 320, 321, 322, 323, 324, 325, 326, 327, 328, 329, 330, 331] (by decide +kernel) (by decide +kernel)
set_option maxRecDepth 20000 in
theorem gX8_dockAtEdge_X5_groups : GoodIn wsX8_dockAtEdge (wsV RX8 116 RX5 yX5_groups wsX5_groups) := goodIn_app (goodIn_of _ (by decide +kernel)) ggX8_dockAtEdge_X5_groups
theorem dX8_dockAtEdge_0 : decode cX8_dockAtEdge 0 = .ok (.aload_n 0, 1) := by decide +kernel
theorem dX8_dockAtEdge_1 : decode cX8_dockAtEdge 1 = .ok (.iload_n 1, 1) := by decide +kernel
theorem dX8_dockAtEdge_2 : decode cX8_dockAtEdge 2 = .ok (.iload_n 2, 1) := by decide +kernel
theorem dX8_dockAtEdge_3 : decode cX8_dockAtEdge 3 = .ok (.invokevirtual 110, 3) := by decide +kernel
theorem dX8_dockAtEdge_6 : decode cX8_dockAtEdge 6 = .ok (.invokestatic 51, 3) := by decide +kernel
theorem dX8_dockAtEdge_9 : decode cX8_dockAtEdge 9 = .ok (.aload_n 0, 1) := by decide +kernel
theorem dX8_dockAtEdge_10 : decode cX8_dockAtEdge 10 = .ok (.getfield 19, 3) := by decide +kernel
theorem dX8_dockAtEdge_13 : decode cX8_dockAtEdge 13 = .ok (.aload_n 0, 1) := by decide +kernel
theorem dX8_dockAtEdge_14 : decode cX8_dockAtEdge 14 = .ok (.getfield 12, 3) := by decide +kernel
theorem dX8_dockAtEdge_17 : decode cX8_dockAtEdge 17 = .ok (.invokevirtual 55, 3) := by decide +kernel
theorem dX8_dockAtEdge_20 : decode cX8_dockAtEdge 20 = .ok (.aload_n 0, 1) := by decide +kernel
theorem dX8_dockAtEdge_21 : decode cX8_dockAtEdge 21 = .ok (.getfield 12, 3) := by decide +kernel
theorem dX8_dockAtEdge_24 : decode cX8_dockAtEdge 24 = .ok (.getfield 97, 3) := by decide +kernel
theorem dX8_dockAtEdge_27 : decode cX8_dockAtEdge 27 = .ok (.iload_n 1, 1) := by decide +kernel
theorem dX8_dockAtEdge_28 : decode cX8_dockAtEdge 28 = .ok (.iload_n 2, 1) := by decide +kernel
theorem dX8_dockAtEdge_29 : decode cX8_dockAtEdge 29 = .ok (.invokevirtual 113, 3) := by decide +kernel
theorem dX8_dockAtEdge_32 : decode cX8_dockAtEdge 32 = .ok (.aload_n 0, 1) := by decide +kernel
theorem dX8_dockAtEdge_33 : decode cX8_dockAtEdge 33 = .ok (.invokevirtual 66, 3) := by decide +kernel
theorem dX8_dockAtEdge_36 : decode cX8_dockAtEdge 36 = .ok (.aload_n 0, 1) := by decide +kernel
theorem dX8_dockAtEdge_37 : decode cX8_dockAtEdge 37 = .ok (.getfield 33, 3) := by decide +kernel
theorem dX8_dockAtEdge_40 : decode cX8_dockAtEdge 40 = .ok (.invokevirtual 116, 3) := by decide +kernel
theorem dX8_dockAtEdge_43 : decode cX8_dockAtEdge 43 = .ok (.ireturn, 1) := by decide +kernel
theorem hin_X8_dockAtEdge_X8 : ∀ w ∈ wsX80, w ∈ wsX8_dockAtEdge := by decide +kernel
theorem lk_X8_dockAtEdge_19 : Cond.fieldLink RX8 19 RX8 "history" "LDockTree$History;" ∈ wsX8_dockAtEdge := by decide +kernel
theorem lk_X8_dockAtEdge_12 : Cond.fieldLink RX8 12 RX8 "now" "LDockTree$State;" ∈ wsX8_dockAtEdge := by decide +kernel
theorem hin_X8_dockAtEdge_X7 : ∀ w ∈ wsX70, w ∈ wsX8_dockAtEdge := by decide +kernel
theorem lk_X8_dockAtEdge_33 : Cond.fieldLink RX8 33 RX8 "plan" "LDockTree$Plan;" ∈ wsX8_dockAtEdge := by decide +kernel
theorem k_dockAtEdge (hG : GP G) (hD : DoS S a c h t p b q) (hW : Wo mu c h t p) {x z : Int} (hx : -2147483648 ≤ x ∧ x ≤ 2147483647) (hz : -2147483648 ≤ z ∧ z ≤ 2147483647) (hf : fgF mu c x z = 0) : Ct G l yX8_dockAtEdge wsX8_dockAtEdge 6 0 0 [.ref a, .int (I32 x), .int (I32 z)] S n mu la (Dt (some (.int (I32 ((stlM (putL (pshM mu c h) (c + 2) (dwF (lay (pshM mu c h) (c + 2)) x z)) p c) p 9 - (stlM (putL (pshM mu c h) (c + 2) (dwF (lay (pshM mu c h) (c + 2)) x z)) p c) p 10)))) S n (stlM (putL (pshM mu c h) (c + 2) (dwF (lay (pshM mu c h) (c + 2)) x z)) p c) la) := by
  have o8 := hD.1
  have o7 := hD.2.1.1
  have o3 := hD.2.2.1.1
  have o5 := hD.2.2.2.2.1.1
  have o4 := hD.2.1.2.2.1.1
  have dj := hD.2.2.2.2.2.2.2
  have hn := hW.2.2.2.1
  have hz9 := hW.2.2.2.2.1
  have hR1 := R32_pshM (c := c) hW.1 hn hz9
  have l1 : lay (pshM mu c h) (c + 2) = lay mu (c + 2) := lay_psh hn (by omega)
  have hB1 : Bd 16000000 (lay (pshM mu c h) (c + 2)) := by rw [l1]; exact hW.2.1
  have f0 := fgF_0 hf hW.2.2.1.2
  have hB3 := dwF_bd (p := x) hB1 (by omega) (by omega) z
  refine Ct.ofV (cc := cX8_dockAtEdge) (nL := 3) (ret := (some .int)) [some (.ref a), some (.int (I32 x)), some (.int (I32 z))] hG (by decide) rfl (Nat.le_of_ble_eq_true rfl) rfl ?_
  rintro X rfl rfl C hcl hsl E
  refine V_aload_n C dX8_dockAtEdge_0 rfl ?_
  refine V_iload_n C dX8_dockAtEdge_1 rfl ?_
  refine V_iload_n C dX8_dockAtEdge_2 rfl ?_
  refine V_callVD (nA := 2) C dX8_dockAtEdge_3 (k_faultOfEdge C.gp hD hW hx hz) gX8_dockAtEdge_X8_faultOfEdge rfl o8 rfl (by decide +kernel) rfl (by decide) (by decide) (Nat.le_of_ble_eq_true rfl) ⟨by omega, by omega⟩ rfl ?_
  rw [hf]
  refine V_callSD (nA := 1) C dX8_dockAtEdge_6 (c_throwIf0 C.gp) gX8_dockAtEdge_X8_throwIf rfl (by decide +kernel) rfl (by decide) (by decide) (Nat.le_of_ble_eq_true rfl) ⟨by omega, by omega⟩ rfl ?_
  refine V_aload_n C dX8_dockAtEdge_9 rfl ?_
  refine V_getR C 1 dX8_dockAtEdge_10 o8 rfl hin_X8_dockAtEdge_X8 (by decide) lk_X8_dockAtEdge_19 rfl rfl ?_
  refine V_aload_n C dX8_dockAtEdge_13 rfl ?_
  refine V_getR C 0 dX8_dockAtEdge_14 o8 rfl hin_X8_dockAtEdge_X8 (by decide) lk_X8_dockAtEdge_12 rfl rfl ?_
  refine V_callVD (nA := 1) C dX8_dockAtEdge_17 (c_push C.gp hD.2.2.1 hD.2.1 (by omega) hW.1 hn hz9) gX8_dockAtEdge_X3_push rfl o3 rfl (by decide +kernel) rfl (by decide) (by decide) (Nat.le_of_ble_eq_true rfl) ⟨by omega, by omega⟩ rfl ?_
  refine V_aload_n C dX8_dockAtEdge_20 rfl ?_
  refine V_getR C 0 dX8_dockAtEdge_21 o8 rfl hin_X8_dockAtEdge_X8 (by decide) lk_X8_dockAtEdge_12 rfl rfl ?_
  refine V_getNR C 4 (host := "DockTree") dX8_dockAtEdge_24 o7 rfl hin_X8_dockAtEdge_X7 (by decide) (by decide +kernel) rfl rfl ?_
  refine V_iload_n C dX8_dockAtEdge_27 rfl ?_
  refine V_iload_n C dX8_dockAtEdge_28 rfl ?_
  refine V_callVD (nA := 2) C dX8_dockAtEdge_29 (w_dockAtWindow C.gp hD.2.1.2.2.1 hB1 (by omega) (by omega) (by omega)) gX8_dockAtEdge_X4_dockAtWindow rfl o4 rfl (by decide +kernel) rfl (by decide) (by decide) (Nat.le_of_ble_eq_true rfl) ⟨by omega, by omega⟩ rfl ?_
  refine V_aload_n C dX8_dockAtEdge_32 rfl ?_
  refine V_callVD (nA := 0) C dX8_dockAtEdge_33 (k_settle C.gp hD (R32_putL hR1 (hB3.r32 (by omega))) (lay_putL_bd (by omega) hB3) (by omega)) gX8_dockAtEdge_X8_settle rfl o8 rfl (by decide +kernel) rfl (by decide) (by decide) (Nat.le_of_ble_eq_true rfl) ⟨by omega, by omega⟩ rfl ?_
  refine V_aload_n C dX8_dockAtEdge_36 rfl ?_
  refine V_getR C 3 dX8_dockAtEdge_37 o8 rfl hin_X8_dockAtEdge_X8 (by decide) lk_X8_dockAtEdge_33 rfl rfl ?_
  refine V_callVD (nA := 0) C dX8_dockAtEdge_40 (w_groups C.gp hD.2.2.2.2.1) gX8_dockAtEdge_X5_groups rfl o5 rfl (by decide +kernel) rfl (by decide) (by decide) (Nat.le_of_ble_eq_true rfl) ⟨by omega, by omega⟩ rfl ?_
  refine V_ireturn C E dX8_dockAtEdge_43 (by omega) (by omega) ?_
  exact Dt_rfl
-- X8_dockAtEdge
theorem x_dockAtEdge (hG : GP G) (hGX : GX G) (hl9 : l.stackTraces = false) (hD : DoS S a c h t p b q) (hW : Wo mu c h t p) {x z : Int} (hx : -2147483648 ≤ x ∧ x ≤ 2147483647) (hz : -2147483648 ≤ z ∧ z ≤ 2147483647) (hf : fgF mu c x z = 1 ∨ fgF mu c x z = 2 ∨ fgF mu c x z = 3) : CtX G l yX8_dockAtEdge wsX8_dockAtEdge 7 [.ref a, .int (I32 x), .int (I32 z)] S n mu la (exn (fgF mu c x z)) := by
  have o8 := hD.1
  have o7 := hD.2.1.1
  refine CtX.ofV (cc := cX8_dockAtEdge) (nL := 3) (ret := (some .int)) [some (.ref a), some (.int (I32 x)), some (.int (I32 z))] hG (by decide) rfl (Nat.le_of_ble_eq_true rfl) rfl ?_
  rintro X rfl rfl C hcl hsl hnt E
  refine V_aload_n C dX8_dockAtEdge_0 rfl ?_
  refine V_iload_n C dX8_dockAtEdge_1 rfl ?_
  refine V_iload_n C dX8_dockAtEdge_2 rfl ?_
  refine V_callVD (nA := 2) C dX8_dockAtEdge_3 (k_faultOfEdge C.gp hD hW hx hz) gX8_dockAtEdge_X8_faultOfEdge rfl o8 rfl (by decide +kernel) rfl (by decide) (by decide) (Nat.le_of_ble_eq_true rfl) ⟨by omega, by omega⟩ rfl ?_
  exact V_callSX (nA := 1) C hcl hsl hnt E dX8_dockAtEdge_6 (c_throwIfX C.gp hGX hl9 hf) gX8_dockAtEdge_X8_throwIf rfl (by decide +kernel) rfl (by omega) (by decide) (Nat.le_of_ble_eq_true rfl) rfl
set_option maxRecDepth 20000 in
theorem ggX8_floatAt_X8_faultOfFloating : GoodIn wsX8_floatAt wsX8_faultOfFloating := goodIn_r _ [7, 8, 9, 10, 6, 11, 2, 274, 275, 276, 277, 278, 279, 280, 281, 282, 283, 284, 285, 286] (by decide +kernel) (by decide +kernel)
set_option maxRecDepth 20000 in
theorem gX8_floatAt_X8_faultOfFloating : GoodIn wsX8_floatAt (wsV RX8 120 RX8 yX8_faultOfFloating wsX8_faultOfFloating) := goodIn_app (goodIn_of _ (by decide +kernel)) ggX8_floatAt_X8_faultOfFloating
set_option maxRecDepth 20000 in
theorem ggX8_floatAt_X8_throwIf : GoodIn wsX8_floatAt wsX8_throwIf := goodIn_ca (goodIn_ca (goodIn_ca (goodIn_r _ [14, 15, 16, 17, 18, 19, 20] (by decide +kernel) (by decide +kernel)) (goodIn_sub (fun _ h => List.mem_cons_of_mem _ (List.mem_append_left _ (List.mem_append_left _ (List.mem_append_right _ h)))) (by decide +kernel))) (goodIn_sub (fun _ h => List.mem_cons_of_mem _ (List.mem_append_left _ (List.mem_append_right _ h))) (by decide +kernel))) (goodIn_sub (fun _ h => List.mem_cons_of_mem _ (List.mem_append_right _ h)) (by decide +kernel))
set_option maxRecDepth 20000 in
theorem gX8_floatAt_X8_throwIf : GoodIn wsX8_floatAt (va_wsS RX8 51 yX8_throwIf wsX8_throwIf) := goodIn_app (goodIn_of _ (by decide +kernel)) ggX8_floatAt_X8_throwIf
set_option maxRecDepth 20000 in
theorem ggX8_floatAt_X3_push : GoodIn wsX8_floatAt wsX3_push := goodIn_r _ [25, 26, 27, 28, 29, 30, 31, 32, 33, 34, 24, 35, 36, 37, 38, 39, 40, 41, 42, 43, 44, 45, 46, 47, 48, 6, 49, 50, 51, 52, 53, 54, 55, 56, 57, 58, 59, 60, 61, 62, 63, 64, 65, 66, 67, 68, 69, 70, 71, 72, 73, 74, 75, 76, 77, 78, 287, 288, 289, 280, 281, 282, 283, 284, 285, 286, 290, 291, 292, 293, 294, 295, 296, 297] (by decide +kernel) (by decide +kernel)
set_option maxRecDepth 20000 in
theorem gX8_floatAt_X3_push : GoodIn wsX8_floatAt (wsV RX8 55 RX3 yX3_push wsX3_push) := goodIn_app (goodIn_of _ (by decide +kernel)) ggX8_floatAt_X3_push
set_option maxRecDepth 20000 in
theorem ggX8_floatAt_X4_floatAlone : GoodIn wsX8_floatAt wsX4_floatAlone := goodIn_r _ [82, 62, 66, 67, 83, 84, 85, 58, 86, 60, 61, 87, 29, 30, 31, 77, 6, 78, 88, 89, 90, 91, 92, 93, 94, 95, 96, 97, 98, 99, 100, 101, 102, 103, 104, 105, 106, 107, 63, 108, 109, 110, 111, 64, 112, 113, 114, 115, 116, 117, 118, 119, 120, 121, 122, 123, 124, 125, 126, 127, 290, 291, 292, 293, 294, 295, 296, 297] (by decide +kernel) (by decide +kernel)
set_option maxRecDepth 20000 in
theorem gX8_floatAt_X4_floatAlone : GoodIn wsX8_floatAt (wsV RX8 124 RX4 yX4_floatAlone wsX4_floatAlone) := goodIn_app (goodIn_of _ (by decide +kernel)) ggX8_floatAt_X4_floatAlone
set_option maxRecDepth 20000 in
theorem ggX8_floatAt_X8_settle : GoodIn wsX8_floatAt wsX8_settle := goodIn_s _ [(131, 2), (2, 1), (133, 21), (58, 1), (154, 1), (60, 1), (77, 1), (6, 1), (78, 1), (155, 4), (61, 1), (92, 2), (159, 14), (62, 1), (98, 2), (173, 7), (30, 1), (180, 5), (65, 1), (185, 9), (66, 1), (194, 4), (67, 1), (198, 35), (63, 1), (233, 40), (274, 13), (298, 13), (290, 8), (311, 6)] (by rfl) (by decide +kernel)
set_option maxRecDepth 20000 in
theorem gX8_floatAt_X8_settle : GoodIn wsX8_floatAt (wsV RX8 66 RX8 yX8_settle wsX8_settle) := goodIn_app (goodIn_of _ (by decide +kernel)) ggX8_floatAt_X8_settle
set_option maxRecDepth 20000 in
theorem ggX8_floatAt_X4_countOf : GoodIn wsX8_floatAt wsX4_countOf := goodIn_r _ [172, 62, 77, 6, 78, 290, 291, 292, 293, 294, 295, 296, 297] (by decide +kernel) (by decide +kernel)
set_option maxRecDepth 20000 in
theorem gX8_floatAt_X4_countOf : GoodIn wsX8_floatAt (wsV RX8 107 RX4 yX4_countOf wsX4_countOf) := goodIn_app (goodIn_of _ (by decide +kernel)) ggX8_floatAt_X4_countOf
theorem dX8_floatAt_0 : decode cX8_floatAt 0 = .ok (.aload_n 0, 1) := by decide +kernel
theorem dX8_floatAt_1 : decode cX8_floatAt 1 = .ok (.iload_n 1, 1) := by decide +kernel
theorem dX8_floatAt_2 : decode cX8_floatAt 2 = .ok (.iload_n 2, 1) := by decide +kernel
theorem dX8_floatAt_3 : decode cX8_floatAt 3 = .ok (.iload_n 3, 1) := by decide +kernel
theorem dX8_floatAt_4 : decode cX8_floatAt 4 = .ok (.iload 4, 2) := by decide +kernel
theorem dX8_floatAt_6 : decode cX8_floatAt 6 = .ok (.iload 5, 2) := by decide +kernel
theorem dX8_floatAt_8 : decode cX8_floatAt 8 = .ok (.invokevirtual 120, 3) := by decide +kernel
theorem dX8_floatAt_11 : decode cX8_floatAt 11 = .ok (.invokestatic 51, 3) := by decide +kernel
theorem dX8_floatAt_14 : decode cX8_floatAt 14 = .ok (.aload_n 0, 1) := by decide +kernel
theorem dX8_floatAt_15 : decode cX8_floatAt 15 = .ok (.getfield 19, 3) := by decide +kernel
theorem dX8_floatAt_18 : decode cX8_floatAt 18 = .ok (.aload_n 0, 1) := by decide +kernel
theorem dX8_floatAt_19 : decode cX8_floatAt 19 = .ok (.getfield 12, 3) := by decide +kernel
theorem dX8_floatAt_22 : decode cX8_floatAt 22 = .ok (.invokevirtual 55, 3) := by decide +kernel
theorem dX8_floatAt_25 : decode cX8_floatAt 25 = .ok (.aload_n 0, 1) := by decide +kernel
theorem dX8_floatAt_26 : decode cX8_floatAt 26 = .ok (.getfield 12, 3) := by decide +kernel
theorem dX8_floatAt_29 : decode cX8_floatAt 29 = .ok (.getfield 97, 3) := by decide +kernel
theorem dX8_floatAt_32 : decode cX8_floatAt 32 = .ok (.iload_n 1, 1) := by decide +kernel
theorem dX8_floatAt_33 : decode cX8_floatAt 33 = .ok (.iload_n 2, 1) := by decide +kernel
theorem dX8_floatAt_34 : decode cX8_floatAt 34 = .ok (.iload_n 3, 1) := by decide +kernel
theorem dX8_floatAt_35 : decode cX8_floatAt 35 = .ok (.iload 4, 2) := by decide +kernel
theorem dX8_floatAt_37 : decode cX8_floatAt 37 = .ok (.iload 5, 2) := by decide +kernel
theorem dX8_floatAt_39 : decode cX8_floatAt 39 = .ok (.invokevirtual 124, 3) := by decide +kernel
theorem dX8_floatAt_42 : decode cX8_floatAt 42 = .ok (.aload_n 0, 1) := by decide +kernel
theorem dX8_floatAt_43 : decode cX8_floatAt 43 = .ok (.invokevirtual 66, 3) := by decide +kernel
theorem dX8_floatAt_46 : decode cX8_floatAt 46 = .ok (.aload_n 0, 1) := by decide +kernel
theorem dX8_floatAt_47 : decode cX8_floatAt 47 = .ok (.getfield 12, 3) := by decide +kernel
theorem dX8_floatAt_50 : decode cX8_floatAt 50 = .ok (.getfield 97, 3) := by decide +kernel
theorem dX8_floatAt_53 : decode cX8_floatAt 53 = .ok (.bipush 48, 2) := by decide +kernel
theorem dX8_floatAt_55 : decode cX8_floatAt 55 = .ok (.invokevirtual 107, 3) := by decide +kernel
theorem dX8_floatAt_58 : decode cX8_floatAt 58 = .ok (.ireturn, 1) := by decide +kernel
theorem hin_X8_floatAt_X8 : ∀ w ∈ wsX80, w ∈ wsX8_floatAt := by decide +kernel
theorem lk_X8_floatAt_19 : Cond.fieldLink RX8 19 RX8 "history" "LDockTree$History;" ∈ wsX8_floatAt := by decide +kernel
theorem lk_X8_floatAt_12 : Cond.fieldLink RX8 12 RX8 "now" "LDockTree$State;" ∈ wsX8_floatAt := by decide +kernel
theorem hin_X8_floatAt_X7 : ∀ w ∈ wsX70, w ∈ wsX8_floatAt := by decide +kernel
theorem k_floatAt (hG : GP G) (hD : DoS S a c h t p b q) (hW : Wo mu c h t p) {x y z w v : Int} (hx : -2147483648 ≤ x ∧ x ≤ 2147483647) (hy : -2147483648 ≤ y ∧ y ≤ 2147483647) (hz : -2147483648 ≤ z ∧ z ≤ 2147483647) (hw : -2147483648 ≤ w ∧ w ≤ 2147483647) (hv : -2147483648 ≤ v ∧ v ≤ 2147483647) (hf : fflF mu c x y z w v = 0) : Ct G l yX8_floatAt wsX8_floatAt 6 0 0 [.ref a, .int (I32 x), .int (I32 y), .int (I32 z), .int (I32 w), .int (I32 v)] S n mu la (Dt (some (.int (I32 (gL (lay (stlM (putL (pshM mu c h) (c + 2) (flF (lay (pshM mu c h) (c + 2)) x y z w v)) p c) (c + 2)) 2 48)))) S n (stlM (putL (pshM mu c h) (c + 2) (flF (lay (pshM mu c h) (c + 2)) x y z w v)) p c) la) := by
  have o8 := hD.1
  have o7 := hD.2.1.1
  have o3 := hD.2.2.1.1
  have o5 := hD.2.2.2.2.1.1
  have o4 := hD.2.1.2.2.1.1
  have dj := hD.2.2.2.2.2.2.2
  have hn := hW.2.2.2.1
  have hz9 := hW.2.2.2.2.1
  have hR1 := R32_pshM (c := c) hW.1 hn hz9
  have l1 : lay (pshM mu c h) (c + 2) = lay mu (c + 2) := lay_psh hn (by omega)
  have hB1 : Bd 16000000 (lay (pshM mu c h) (c + 2)) := by rw [l1]; exact hW.2.1
  have f0 := fflF_0 hf hW.2.2.1.2
  have hB3 := flF_bd (p := x) (x := y) (y := z) (w := w) (v := v) hB1 (by omega) (by omega) (by omega) (by omega) (by omega) (by omega)
  refine Ct.ofV (cc := cX8_floatAt) (nL := 6) (ret := (some .int)) [some (.ref a), some (.int (I32 x)), some (.int (I32 y)), some (.int (I32 z)), some (.int (I32 w)), some (.int (I32 v))] hG (by decide) rfl (Nat.le_of_ble_eq_true rfl) rfl ?_
  rintro X rfl rfl C hcl hsl E
  refine V_aload_n C dX8_floatAt_0 rfl ?_
  refine V_iload_n C dX8_floatAt_1 rfl ?_
  refine V_iload_n C dX8_floatAt_2 rfl ?_
  refine V_iload_n C dX8_floatAt_3 rfl ?_
  refine V_iload C dX8_floatAt_4 rfl ?_
  refine V_iload C dX8_floatAt_6 rfl ?_
  refine V_callVD (nA := 5) C dX8_floatAt_8 (k_faultOfFloating C.gp hD hW hx hy hz hw hv) gX8_floatAt_X8_faultOfFloating rfl o8 rfl (by decide +kernel) rfl (by decide) (by decide) (Nat.le_of_ble_eq_true rfl) ⟨by omega, by omega⟩ rfl ?_
  rw [hf]
  refine V_callSD (nA := 1) C dX8_floatAt_11 (c_throwIf0 C.gp) gX8_floatAt_X8_throwIf rfl (by decide +kernel) rfl (by decide) (by decide) (Nat.le_of_ble_eq_true rfl) ⟨by omega, by omega⟩ rfl ?_
  refine V_aload_n C dX8_floatAt_14 rfl ?_
  refine V_getR C 1 dX8_floatAt_15 o8 rfl hin_X8_floatAt_X8 (by decide) lk_X8_floatAt_19 rfl rfl ?_
  refine V_aload_n C dX8_floatAt_18 rfl ?_
  refine V_getR C 0 dX8_floatAt_19 o8 rfl hin_X8_floatAt_X8 (by decide) lk_X8_floatAt_12 rfl rfl ?_
  refine V_callVD (nA := 1) C dX8_floatAt_22 (c_push C.gp hD.2.2.1 hD.2.1 (by omega) hW.1 hn hz9) gX8_floatAt_X3_push rfl o3 rfl (by decide +kernel) rfl (by decide) (by decide) (Nat.le_of_ble_eq_true rfl) ⟨by omega, by omega⟩ rfl ?_
  refine V_aload_n C dX8_floatAt_25 rfl ?_
  refine V_getR C 0 dX8_floatAt_26 o8 rfl hin_X8_floatAt_X8 (by decide) lk_X8_floatAt_12 rfl rfl ?_
  refine V_getNR C 4 (host := "DockTree") dX8_floatAt_29 o7 rfl hin_X8_floatAt_X7 (by decide) (by decide +kernel) rfl rfl ?_
  refine V_iload_n C dX8_floatAt_32 rfl ?_
  refine V_iload_n C dX8_floatAt_33 rfl ?_
  refine V_iload_n C dX8_floatAt_34 rfl ?_
  refine V_iload C dX8_floatAt_35 rfl ?_
  refine V_iload C dX8_floatAt_37 rfl ?_
  refine V_callVD (nA := 5) C dX8_floatAt_39 (w_floatAlone C.gp hD.2.1.2.2.1 hB1 (by omega) (by omega)) gX8_floatAt_X4_floatAlone rfl o4 rfl (by decide +kernel) rfl (by decide) (by decide) (Nat.le_of_ble_eq_true rfl) ⟨by omega, by omega⟩ rfl ?_
  refine V_aload_n C dX8_floatAt_42 rfl ?_
  refine V_callVD (nA := 0) C dX8_floatAt_43 (k_settle C.gp hD (R32_putL hR1 (hB3.r32 (by omega))) (lay_putL_bd (by omega) hB3) (by omega)) gX8_floatAt_X8_settle rfl o8 rfl (by decide +kernel) rfl (by decide) (by decide) (Nat.le_of_ble_eq_true rfl) ⟨by omega, by omega⟩ rfl ?_
  refine V_aload_n C dX8_floatAt_46 rfl ?_
  refine V_getR C 0 dX8_floatAt_47 o8 rfl hin_X8_floatAt_X8 (by decide) lk_X8_floatAt_12 rfl rfl ?_
  refine V_getNR C 4 (host := "DockTree") dX8_floatAt_50 o7 rfl hin_X8_floatAt_X7 (by decide) (by decide +kernel) rfl rfl ?_
  refine V_bipush C dX8_floatAt_53 (by decide +kernel) ?_
  refine V_callVD (nA := 1) C dX8_floatAt_55 (w_countOf C.gp hD.2.1.2.2.1) gX8_floatAt_X4_countOf rfl o4 rfl (by decide +kernel) rfl (by decide) (by decide) (Nat.le_of_ble_eq_true rfl) ⟨by omega, by omega⟩ rfl ?_
  refine V_ireturn C E dX8_floatAt_58 (by omega) (by omega) ?_
  exact Dt_rfl
-- X8_floatAt
theorem x_floatAt (hG : GP G) (hGX : GX G) (hl9 : l.stackTraces = false) (hD : DoS S a c h t p b q) (hW : Wo mu c h t p) {x y z w v : Int} (hx : -2147483648 ≤ x ∧ x ≤ 2147483647) (hy : -2147483648 ≤ y ∧ y ≤ 2147483647) (hz : -2147483648 ≤ z ∧ z ≤ 2147483647) (hw : -2147483648 ≤ w ∧ w ≤ 2147483647) (hv : -2147483648 ≤ v ∧ v ≤ 2147483647) (hf : fflF mu c x y z w v = 1 ∨ fflF mu c x y z w v = 2 ∨ fflF mu c x y z w v = 3) : CtX G l yX8_floatAt wsX8_floatAt 7 [.ref a, .int (I32 x), .int (I32 y), .int (I32 z), .int (I32 w), .int (I32 v)] S n mu la (exn (fflF mu c x y z w v)) := by
  have o8 := hD.1
  have o7 := hD.2.1.1
  refine CtX.ofV (cc := cX8_floatAt) (nL := 6) (ret := (some .int)) [some (.ref a), some (.int (I32 x)), some (.int (I32 y)), some (.int (I32 z)), some (.int (I32 w)), some (.int (I32 v))] hG (by decide) rfl (Nat.le_of_ble_eq_true rfl) rfl ?_
  rintro X rfl rfl C hcl hsl hnt E
  refine V_aload_n C dX8_floatAt_0 rfl ?_
  refine V_iload_n C dX8_floatAt_1 rfl ?_
  refine V_iload_n C dX8_floatAt_2 rfl ?_
  refine V_iload_n C dX8_floatAt_3 rfl ?_
  refine V_iload C dX8_floatAt_4 rfl ?_
  refine V_iload C dX8_floatAt_6 rfl ?_
  refine V_callVD (nA := 5) C dX8_floatAt_8 (k_faultOfFloating C.gp hD hW hx hy hz hw hv) gX8_floatAt_X8_faultOfFloating rfl o8 rfl (by decide +kernel) rfl (by decide) (by decide) (Nat.le_of_ble_eq_true rfl) ⟨by omega, by omega⟩ rfl ?_
  exact V_callSX (nA := 1) C hcl hsl hnt E dX8_floatAt_11 (c_throwIfX C.gp hGX hl9 hf) gX8_floatAt_X8_throwIf rfl (by decide +kernel) rfl (by omega) (by decide) (Nat.le_of_ble_eq_true rfl) rfl
set_option maxRecDepth 20000 in
theorem ggX8_raise_X8_faultOfRaising : GoodIn wsX8_raise wsX8_faultOfRaising := goodIn_r _ [7, 2, 8, 9, 10, 6, 11, 12, 13, 14, 15, 16, 17, 18, 19, 20, 21, 22, 23, 249, 250, 251, 252, 253, 254, 255, 256, 257, 258, 259, 260, 261, 262, 263, 264, 265, 266, 267, 268, 269] (by decide +kernel) (by decide +kernel)
set_option maxRecDepth 20000 in
theorem gX8_raise_X8_faultOfRaising : GoodIn wsX8_raise (wsV RX8 128 RX8 yX8_faultOfRaising wsX8_faultOfRaising) := goodIn_app (goodIn_of _ (by decide +kernel)) ggX8_raise_X8_faultOfRaising
set_option maxRecDepth 20000 in
theorem ggX8_raise_X8_throwIf : GoodIn wsX8_raise wsX8_throwIf := goodIn_ca (goodIn_ca (goodIn_ca (goodIn_r _ [26, 27, 28, 29, 30, 31, 32] (by decide +kernel) (by decide +kernel)) (goodIn_sub (fun _ h => List.mem_cons_of_mem _ (List.mem_append_left _ (List.mem_append_left _ (List.mem_append_right _ h)))) (by decide +kernel))) (goodIn_sub (fun _ h => List.mem_cons_of_mem _ (List.mem_append_left _ (List.mem_append_right _ h))) (by decide +kernel))) (goodIn_sub (fun _ h => List.mem_cons_of_mem _ (List.mem_append_right _ h)) (by decide +kernel))
set_option maxRecDepth 20000 in
theorem gX8_raise_X8_throwIf : GoodIn wsX8_raise (va_wsS RX8 51 yX8_throwIf wsX8_throwIf) := goodIn_app (goodIn_of _ (by decide +kernel)) ggX8_raise_X8_throwIf
set_option maxRecDepth 20000 in
theorem ggX8_raise_X3_push : GoodIn wsX8_raise wsX3_push := goodIn_r _ [37, 38, 39, 40, 41, 42, 43, 44, 45, 46, 36, 47, 48, 49, 50, 51, 52, 53, 54, 55, 56, 57, 58, 59, 60, 6, 61, 62, 63, 64, 65, 66, 67, 68, 69, 19, 70, 21, 71, 72, 73, 74, 75, 76, 77, 78, 79, 80, 81, 82, 83, 84, 85, 86, 22, 23, 270, 271, 272, 255, 256, 257, 258, 259, 260, 261, 262, 263, 264, 265, 266, 267, 268, 269] (by decide +kernel) (by decide +kernel)
set_option maxRecDepth 20000 in
theorem gX8_raise_X3_push : GoodIn wsX8_raise (wsV RX8 55 RX3 yX3_push wsX3_push) := goodIn_app (goodIn_of _ (by decide +kernel)) ggX8_raise_X3_push
set_option maxRecDepth 20000 in
theorem ggX8_raise_X4_holderOf : GoodIn wsX8_raise wsX4_holderOf := goodIn_r _ [90, 21, 22, 6, 23, 262, 263, 264, 265, 266, 267, 268, 269] (by decide +kernel) (by decide +kernel)
set_option maxRecDepth 20000 in
theorem gX8_raise_X4_holderOf : GoodIn wsX8_raise (wsV RX8 103 RX4 yX4_holderOf wsX4_holderOf) := goodIn_app (goodIn_of _ (by decide +kernel)) ggX8_raise_X4_holderOf
set_option maxRecDepth 20000 in
theorem ggX8_raise_X4_raiseGroup : GoodIn wsX8_raise wsX4_raiseGroup := goodIn_r _ [94, 71, 72, 22, 6, 23, 95, 96, 97, 19, 98, 21, 99, 100, 101, 102, 103, 104, 262, 263, 264, 265, 266, 267, 268, 269] (by decide +kernel) (by decide +kernel)
set_option maxRecDepth 20000 in
theorem gX8_raise_X4_raiseGroup : GoodIn wsX8_raise (wsV RX8 131 RX4 yX4_raiseGroup wsX4_raiseGroup) := goodIn_app (goodIn_of _ (by decide +kernel)) ggX8_raise_X4_raiseGroup
set_option maxRecDepth 20000 in
theorem ggX8_raise_X8_settle : GoodIn wsX8_raise wsX8_settle := goodIn_s _ [(108, 2), (2, 1), (110, 19), (88, 2), (19, 1), (90, 1), (21, 2), (6, 1), (23, 1), (129, 4), (71, 1), (99, 2), (133, 14), (72, 1), (147, 9), (42, 1), (156, 5), (75, 1), (161, 9), (76, 1), (170, 4), (77, 1), (174, 35), (73, 1), (209, 53), (273, 13), (262, 8), (286, 6)] (by rfl) (by decide +kernel)
set_option maxRecDepth 20000 in
theorem gX8_raise_X8_settle : GoodIn wsX8_raise (wsV RX8 66 RX8 yX8_settle wsX8_settle) := goodIn_app (goodIn_of _ (by decide +kernel)) ggX8_raise_X8_settle
theorem dX8_raise_0 : decode cX8_raise 0 = .ok (.aload_n 0, 1) := by decide +kernel
theorem dX8_raise_1 : decode cX8_raise 1 = .ok (.iload_n 1, 1) := by decide +kernel
theorem dX8_raise_2 : decode cX8_raise 2 = .ok (.invokevirtual 128, 3) := by decide +kernel
theorem dX8_raise_5 : decode cX8_raise 5 = .ok (.invokestatic 51, 3) := by decide +kernel
theorem dX8_raise_8 : decode cX8_raise 8 = .ok (.aload_n 0, 1) := by decide +kernel
theorem dX8_raise_9 : decode cX8_raise 9 = .ok (.getfield 19, 3) := by decide +kernel
theorem dX8_raise_12 : decode cX8_raise 12 = .ok (.aload_n 0, 1) := by decide +kernel
theorem dX8_raise_13 : decode cX8_raise 13 = .ok (.getfield 12, 3) := by decide +kernel
theorem dX8_raise_16 : decode cX8_raise 16 = .ok (.invokevirtual 55, 3) := by decide +kernel
theorem dX8_raise_19 : decode cX8_raise 19 = .ok (.aload_n 0, 1) := by decide +kernel
theorem dX8_raise_20 : decode cX8_raise 20 = .ok (.getfield 12, 3) := by decide +kernel
theorem dX8_raise_23 : decode cX8_raise 23 = .ok (.getfield 97, 3) := by decide +kernel
theorem dX8_raise_26 : decode cX8_raise 26 = .ok (.aload_n 0, 1) := by decide +kernel
theorem dX8_raise_27 : decode cX8_raise 27 = .ok (.getfield 12, 3) := by decide +kernel
theorem dX8_raise_30 : decode cX8_raise 30 = .ok (.getfield 97, 3) := by decide +kernel
theorem dX8_raise_33 : decode cX8_raise 33 = .ok (.iload_n 1, 1) := by decide +kernel
theorem dX8_raise_34 : decode cX8_raise 34 = .ok (.invokevirtual 103, 3) := by decide +kernel
theorem dX8_raise_37 : decode cX8_raise 37 = .ok (.invokevirtual 131, 3) := by decide +kernel
theorem dX8_raise_40 : decode cX8_raise 40 = .ok (.istore_n 2, 1) := by decide +kernel
theorem dX8_raise_41 : decode cX8_raise 41 = .ok (.aload_n 0, 1) := by decide +kernel
theorem dX8_raise_42 : decode cX8_raise 42 = .ok (.invokevirtual 66, 3) := by decide +kernel
theorem dX8_raise_45 : decode cX8_raise 45 = .ok (.iload_n 2, 1) := by decide +kernel
theorem dX8_raise_46 : decode cX8_raise 46 = .ok (.ireturn, 1) := by decide +kernel
theorem hin_X8_raise_X8 : ∀ w ∈ wsX80, w ∈ wsX8_raise := by decide +kernel
theorem lk_X8_raise_19 : Cond.fieldLink RX8 19 RX8 "history" "LDockTree$History;" ∈ wsX8_raise := by decide +kernel
theorem lk_X8_raise_12 : Cond.fieldLink RX8 12 RX8 "now" "LDockTree$State;" ∈ wsX8_raise := by decide +kernel
theorem hin_X8_raise_X7 : ∀ w ∈ wsX70, w ∈ wsX8_raise := by decide +kernel
theorem k_raise (hG : GP G) (hD : DoS S a c h t p b q) (hW : Wo mu c h t p) {x : Int} (hx : -2147483648 ≤ x ∧ x ≤ 2147483647) (hf : faF mu c x = 0) : Ct G l yX8_raise wsX8_raise 6 0 0 [.ref a, .int (I32 x)] S n mu la (Dt (some (.int (I32 (aL (lay (pshM mu c h) (c + 2)) 1 (gL (lay (pshM mu c h) (c + 2)) 0 x))))) S n (stlM (putL (pshM mu c h) (c + 2) (raF (lay (pshM mu c h) (c + 2)) (gL (lay (pshM mu c h) (c + 2)) 0 x))) p c) la) := by
  have o8 := hD.1
  have o7 := hD.2.1.1
  have o3 := hD.2.2.1.1
  have o5 := hD.2.2.2.2.1.1
  have o4 := hD.2.1.2.2.1.1
  have dj := hD.2.2.2.2.2.2.2
  have hn := hW.2.2.2.1
  have hz9 := hW.2.2.2.2.1
  have hR1 := R32_pshM (c := c) hW.1 hn hz9
  have l1 : lay (pshM mu c h) (c + 2) = lay mu (c + 2) := lay_psh hn (by omega)
  have hB1 : Bd 16000000 (lay (pshM mu c h) (c + 2)) := by rw [l1]; exact hW.2.1
  have f0 := faF_0 hf hW.2.2.1.2
  have hB3 := raF_bd hB1 (by omega) (gL (lay (pshM mu c h) (c + 2)) 0 x)
  have b9 := gL_bd hB1 (by omega) 0 x
  refine Ct.ofV (cc := cX8_raise) (nL := 3) (ret := (some .int)) [some (.ref a), some (.int (I32 x)), none] hG (by decide) rfl (Nat.le_of_ble_eq_true rfl) rfl ?_
  rintro X rfl rfl C hcl hsl E
  refine V_aload_n C dX8_raise_0 rfl ?_
  refine V_iload_n C dX8_raise_1 rfl ?_
  refine V_callVD (nA := 1) C dX8_raise_2 (k_faultOfRaising C.gp hD hW hx) gX8_raise_X8_faultOfRaising rfl o8 rfl (by decide +kernel) rfl (by decide) (by decide) (Nat.le_of_ble_eq_true rfl) ⟨by omega, by omega⟩ rfl ?_
  rw [hf]
  refine V_callSD (nA := 1) C dX8_raise_5 (c_throwIf0 C.gp) gX8_raise_X8_throwIf rfl (by decide +kernel) rfl (by decide) (by decide) (Nat.le_of_ble_eq_true rfl) ⟨by omega, by omega⟩ rfl ?_
  refine V_aload_n C dX8_raise_8 rfl ?_
  refine V_getR C 1 dX8_raise_9 o8 rfl hin_X8_raise_X8 (by decide) lk_X8_raise_19 rfl rfl ?_
  refine V_aload_n C dX8_raise_12 rfl ?_
  refine V_getR C 0 dX8_raise_13 o8 rfl hin_X8_raise_X8 (by decide) lk_X8_raise_12 rfl rfl ?_
  refine V_callVD (nA := 1) C dX8_raise_16 (c_push C.gp hD.2.2.1 hD.2.1 (by omega) hW.1 hn hz9) gX8_raise_X3_push rfl o3 rfl (by decide +kernel) rfl (by decide) (by decide) (Nat.le_of_ble_eq_true rfl) ⟨by omega, by omega⟩ rfl ?_
  refine V_aload_n C dX8_raise_19 rfl ?_
  refine V_getR C 0 dX8_raise_20 o8 rfl hin_X8_raise_X8 (by decide) lk_X8_raise_12 rfl rfl ?_
  refine V_getNR C 4 (host := "DockTree") dX8_raise_23 o7 rfl hin_X8_raise_X7 (by decide) (by decide +kernel) rfl rfl ?_
  refine V_aload_n C dX8_raise_26 rfl ?_
  refine V_getR C 0 dX8_raise_27 o8 rfl hin_X8_raise_X8 (by decide) lk_X8_raise_12 rfl rfl ?_
  refine V_getNR C 4 (host := "DockTree") dX8_raise_30 o7 rfl hin_X8_raise_X7 (by decide) (by decide +kernel) rfl rfl ?_
  refine V_iload_n C dX8_raise_33 rfl ?_
  refine V_callVD (nA := 1) C dX8_raise_34 (w_holderOf C.gp hD.2.1.2.2.1) gX8_raise_X4_holderOf rfl o4 rfl (by decide +kernel) rfl (by decide) (by decide) (Nat.le_of_ble_eq_true rfl) ⟨by omega, by omega⟩ rfl ?_
  refine V_callVD (nA := 1) C dX8_raise_37 (w_raiseGroup C.gp hD.2.1.2.2.1 hB1 (by omega) (by omega)) gX8_raise_X4_raiseGroup rfl o4 rfl (by decide +kernel) rfl (by decide) (by decide) (Nat.le_of_ble_eq_true rfl) ⟨by omega, by omega⟩ rfl ?_
  refine V_istore_n C dX8_raise_40 rfl (by decide) ?_
  refine V_aload_n C dX8_raise_41 rfl ?_
  refine V_callVD (nA := 0) C dX8_raise_42 (k_settle C.gp hD (R32_putL hR1 (hB3.r32 (by omega))) (lay_putL_bd (by omega) hB3) (by omega)) gX8_raise_X8_settle rfl o8 rfl (by decide +kernel) rfl (by decide) (by decide) (Nat.le_of_ble_eq_true rfl) ⟨by omega, by omega⟩ rfl ?_
  refine V_iload_n C dX8_raise_45 rfl ?_
  refine V_ireturn C E dX8_raise_46 (by omega) (by omega) ?_
  exact Dt_rfl
-- X8_raise
theorem x_raise (hG : GP G) (hGX : GX G) (hl9 : l.stackTraces = false) (hD : DoS S a c h t p b q) (hW : Wo mu c h t p) {x : Int} (hx : -2147483648 ≤ x ∧ x ≤ 2147483647) (hf : faF mu c x = 1 ∨ faF mu c x = 2 ∨ faF mu c x = 3) : CtX G l yX8_raise wsX8_raise 7 [.ref a, .int (I32 x)] S n mu la (exn (faF mu c x)) := by
  have o8 := hD.1
  have o7 := hD.2.1.1
  refine CtX.ofV (cc := cX8_raise) (nL := 3) (ret := (some .int)) [some (.ref a), some (.int (I32 x)), none] hG (by decide) rfl (Nat.le_of_ble_eq_true rfl) rfl ?_
  rintro X rfl rfl C hcl hsl hnt E
  refine V_aload_n C dX8_raise_0 rfl ?_
  refine V_iload_n C dX8_raise_1 rfl ?_
  refine V_callVD (nA := 1) C dX8_raise_2 (k_faultOfRaising C.gp hD hW hx) gX8_raise_X8_faultOfRaising rfl o8 rfl (by decide +kernel) rfl (by decide) (by decide) (Nat.le_of_ble_eq_true rfl) ⟨by omega, by omega⟩ rfl ?_
  exact V_callSX (nA := 1) C hcl hsl hnt E dX8_raise_5 (c_throwIfX C.gp hGX hl9 hf) gX8_raise_X8_throwIf rfl (by decide +kernel) rfl (by omega) (by decide) (Nat.le_of_ble_eq_true rfl) rfl
set_option maxRecDepth 20000 in
theorem ggX8_close_X8_faultOfPane : GoodIn wsX8_close wsX8_faultOfPane := goodIn_r _ [7, 8, 9, 10, 6, 11, 2, 261, 262, 263, 264, 265, 266, 267, 268, 269, 270, 271, 272, 273] (by decide +kernel) (by decide +kernel)
set_option maxRecDepth 20000 in
theorem gX8_close_X8_faultOfPane : GoodIn wsX8_close (wsV RX8 134 RX8 yX8_faultOfPane wsX8_faultOfPane) := goodIn_app (goodIn_of _ (by decide +kernel)) ggX8_close_X8_faultOfPane
set_option maxRecDepth 20000 in
theorem ggX8_close_X8_throwIf : GoodIn wsX8_close wsX8_throwIf := goodIn_ca (goodIn_ca (goodIn_ca (goodIn_r _ [14, 15, 16, 17, 18, 19, 20] (by decide +kernel) (by decide +kernel)) (goodIn_sub (fun _ h => List.mem_cons_of_mem _ (List.mem_append_left _ (List.mem_append_left _ (List.mem_append_right _ h)))) (by decide +kernel))) (goodIn_sub (fun _ h => List.mem_cons_of_mem _ (List.mem_append_left _ (List.mem_append_right _ h))) (by decide +kernel))) (goodIn_sub (fun _ h => List.mem_cons_of_mem _ (List.mem_append_right _ h)) (by decide +kernel))
set_option maxRecDepth 20000 in
theorem gX8_close_X8_throwIf : GoodIn wsX8_close (va_wsS RX8 51 yX8_throwIf wsX8_throwIf) := goodIn_app (goodIn_of _ (by decide +kernel)) ggX8_close_X8_throwIf
set_option maxRecDepth 20000 in
theorem ggX8_close_X3_push : GoodIn wsX8_close wsX3_push := goodIn_r _ [25, 26, 27, 28, 29, 30, 31, 32, 33, 34, 24, 35, 36, 37, 38, 39, 40, 41, 42, 43, 44, 45, 46, 47, 48, 6, 49, 50, 51, 52, 53, 54, 55, 56, 57, 58, 59, 60, 61, 62, 63, 64, 65, 66, 67, 68, 69, 70, 71, 72, 73, 74, 75, 76, 77, 78, 274, 275, 276, 267, 268, 269, 270, 271, 272, 273, 277, 278, 279, 280, 281, 282, 283, 284] (by decide +kernel) (by decide +kernel)
set_option maxRecDepth 20000 in
theorem gX8_close_X3_push : GoodIn wsX8_close (wsV RX8 55 RX3 yX3_push wsX3_push) := goodIn_app (goodIn_of _ (by decide +kernel)) ggX8_close_X3_push
set_option maxRecDepth 20000 in
theorem ggX8_close_X4_stateOf : GoodIn wsX8_close wsX4_stateOf := goodIn_r _ [82, 60, 77, 6, 78, 277, 278, 279, 280, 281, 282, 283, 284] (by decide +kernel) (by decide +kernel)
set_option maxRecDepth 20000 in
theorem gX8_close_X4_stateOf : GoodIn wsX8_close (wsV RX8 137 RX4 yX4_stateOf wsX4_stateOf) := goodIn_app (goodIn_of _ (by decide +kernel)) ggX8_close_X4_stateOf
set_option maxRecDepth 20000 in
theorem ggX8_close_X4_takeAway : GoodIn wsX8_close wsX4_takeAway := goodIn_r _ [86, 60, 61, 62, 87, 29, 30, 31, 77, 6, 78, 88, 89, 90, 58, 91, 92, 93, 94, 95, 96, 97, 98, 99, 100, 101, 102, 103, 104, 105, 106, 107, 63, 108, 109, 110, 111, 64, 112, 113, 114, 115, 277, 278, 279, 280, 281, 282, 283, 284] (by decide +kernel) (by decide +kernel)
set_option maxRecDepth 20000 in
theorem gX8_close_X4_takeAway : GoodIn wsX8_close (wsV RX8 140 RX4 yX4_takeAway wsX4_takeAway) := goodIn_app (goodIn_of _ (by decide +kernel)) ggX8_close_X4_takeAway
set_option maxRecDepth 20000 in
theorem ggX8_close_X8_settle : GoodIn wsX8_close wsX8_settle := goodIn_s _ [(119, 2), (2, 1), (121, 21), (58, 1), (142, 1), (60, 1), (77, 1), (6, 1), (78, 1), (143, 4), (61, 1), (92, 2), (147, 14), (62, 1), (98, 2), (161, 7), (30, 1), (168, 5), (65, 1), (173, 9), (66, 1), (182, 4), (67, 1), (186, 35), (63, 1), (221, 53), (285, 13), (277, 8), (298, 6)] (by rfl) (by decide +kernel)
set_option maxRecDepth 20000 in
theorem gX8_close_X8_settle : GoodIn wsX8_close (wsV RX8 66 RX8 yX8_settle wsX8_settle) := goodIn_app (goodIn_of _ (by decide +kernel)) ggX8_close_X8_settle
theorem dX8_close_0 : decode cX8_close 0 = .ok (.aload_n 0, 1) := by decide +kernel
theorem dX8_close_1 : decode cX8_close 1 = .ok (.iload_n 1, 1) := by decide +kernel
theorem dX8_close_2 : decode cX8_close 2 = .ok (.invokevirtual 134, 3) := by decide +kernel
theorem dX8_close_5 : decode cX8_close 5 = .ok (.invokestatic 51, 3) := by decide +kernel
theorem dX8_close_8 : decode cX8_close 8 = .ok (.aload_n 0, 1) := by decide +kernel
theorem dX8_close_9 : decode cX8_close 9 = .ok (.getfield 19, 3) := by decide +kernel
theorem dX8_close_12 : decode cX8_close 12 = .ok (.aload_n 0, 1) := by decide +kernel
theorem dX8_close_13 : decode cX8_close 13 = .ok (.getfield 12, 3) := by decide +kernel
theorem dX8_close_16 : decode cX8_close 16 = .ok (.invokevirtual 55, 3) := by decide +kernel
theorem dX8_close_19 : decode cX8_close 19 = .ok (.aload_n 0, 1) := by decide +kernel
theorem dX8_close_20 : decode cX8_close 20 = .ok (.getfield 12, 3) := by decide +kernel
theorem dX8_close_23 : decode cX8_close 23 = .ok (.getfield 97, 3) := by decide +kernel
theorem dX8_close_26 : decode cX8_close 26 = .ok (.iload_n 1, 1) := by decide +kernel
theorem dX8_close_27 : decode cX8_close 27 = .ok (.invokevirtual 137, 3) := by decide +kernel
theorem dX8_close_30 : decode cX8_close 30 = .ok (.istore_n 2, 1) := by decide +kernel
theorem dX8_close_31 : decode cX8_close 31 = .ok (.aload_n 0, 1) := by decide +kernel
theorem dX8_close_32 : decode cX8_close 32 = .ok (.getfield 12, 3) := by decide +kernel
theorem dX8_close_35 : decode cX8_close 35 = .ok (.getfield 97, 3) := by decide +kernel
theorem dX8_close_38 : decode cX8_close 38 = .ok (.iload_n 1, 1) := by decide +kernel
theorem dX8_close_39 : decode cX8_close 39 = .ok (.invokevirtual 140, 3) := by decide +kernel
theorem dX8_close_42 : decode cX8_close 42 = .ok (.aload_n 0, 1) := by decide +kernel
theorem dX8_close_43 : decode cX8_close 43 = .ok (.invokevirtual 66, 3) := by decide +kernel
theorem dX8_close_46 : decode cX8_close 46 = .ok (.iload_n 2, 1) := by decide +kernel
theorem dX8_close_47 : decode cX8_close 47 = .ok (.ireturn, 1) := by decide +kernel
theorem hin_X8_close_X8 : ∀ w ∈ wsX80, w ∈ wsX8_close := by decide +kernel
theorem lk_X8_close_19 : Cond.fieldLink RX8 19 RX8 "history" "LDockTree$History;" ∈ wsX8_close := by decide +kernel
theorem lk_X8_close_12 : Cond.fieldLink RX8 12 RX8 "now" "LDockTree$State;" ∈ wsX8_close := by decide +kernel
theorem hin_X8_close_X7 : ∀ w ∈ wsX70, w ∈ wsX8_close := by decide +kernel
theorem k_close (hG : GP G) (hD : DoS S a c h t p b q) (hW : Wo mu c h t p) {x : Int} (hx : -2147483648 ≤ x ∧ x ≤ 2147483647) (hf : fpF mu c x = 0) : Ct G l yX8_close wsX8_close 6 0 0 [.ref a, .int (I32 x)] S n mu la (Dt (some (.int (I32 (sttF (lay (pshM mu c h) (c + 2)) x)))) S n (stlM (putL (pshM mu c h) (c + 2) (tkF (lay (pshM mu c h) (c + 2)) x)) p c) la) := by
  have o8 := hD.1
  have o7 := hD.2.1.1
  have o3 := hD.2.2.1.1
  have o5 := hD.2.2.2.2.1.1
  have o4 := hD.2.1.2.2.1.1
  have dj := hD.2.2.2.2.2.2.2
  have hn := hW.2.2.2.1
  have hz9 := hW.2.2.2.2.1
  have hR1 := R32_pshM (c := c) hW.1 hn hz9
  have l1 : lay (pshM mu c h) (c + 2) = lay mu (c + 2) := lay_psh hn (by omega)
  have hB1 : Bd 16000000 (lay (pshM mu c h) (c + 2)) := by rw [l1]; exact hW.2.1
  have f0 := fpF_0 hf hW.2.2.1.2
  have hB3 := tkF_bd hB1 (by omega) x
  refine Ct.ofV (cc := cX8_close) (nL := 3) (ret := (some .int)) [some (.ref a), some (.int (I32 x)), none] hG (by decide) rfl (Nat.le_of_ble_eq_true rfl) rfl ?_
  rintro X rfl rfl C hcl hsl E
  refine V_aload_n C dX8_close_0 rfl ?_
  refine V_iload_n C dX8_close_1 rfl ?_
  refine V_callVD (nA := 1) C dX8_close_2 (k_faultOfPane C.gp hD hW hx) gX8_close_X8_faultOfPane rfl o8 rfl (by decide +kernel) rfl (by decide) (by decide) (Nat.le_of_ble_eq_true rfl) ⟨by omega, by omega⟩ rfl ?_
  rw [hf]
  refine V_callSD (nA := 1) C dX8_close_5 (c_throwIf0 C.gp) gX8_close_X8_throwIf rfl (by decide +kernel) rfl (by decide) (by decide) (Nat.le_of_ble_eq_true rfl) ⟨by omega, by omega⟩ rfl ?_
  refine V_aload_n C dX8_close_8 rfl ?_
  refine V_getR C 1 dX8_close_9 o8 rfl hin_X8_close_X8 (by decide) lk_X8_close_19 rfl rfl ?_
  refine V_aload_n C dX8_close_12 rfl ?_
  refine V_getR C 0 dX8_close_13 o8 rfl hin_X8_close_X8 (by decide) lk_X8_close_12 rfl rfl ?_
  refine V_callVD (nA := 1) C dX8_close_16 (c_push C.gp hD.2.2.1 hD.2.1 (by omega) hW.1 hn hz9) gX8_close_X3_push rfl o3 rfl (by decide +kernel) rfl (by decide) (by decide) (Nat.le_of_ble_eq_true rfl) ⟨by omega, by omega⟩ rfl ?_
  refine V_aload_n C dX8_close_19 rfl ?_
  refine V_getR C 0 dX8_close_20 o8 rfl hin_X8_close_X8 (by decide) lk_X8_close_12 rfl rfl ?_
  refine V_getNR C 4 (host := "DockTree") dX8_close_23 o7 rfl hin_X8_close_X7 (by decide) (by decide +kernel) rfl rfl ?_
  refine V_iload_n C dX8_close_26 rfl ?_
  refine V_callVD (nA := 1) C dX8_close_27 (w_stateOf C.gp hD.2.1.2.2.1 hB1 (by omega)) gX8_close_X4_stateOf rfl o4 rfl (by decide +kernel) rfl (by decide) (by decide) (Nat.le_of_ble_eq_true rfl) ⟨by omega, by omega⟩ rfl ?_
  refine V_istore_n C dX8_close_30 rfl (by decide) ?_
  refine V_aload_n C dX8_close_31 rfl ?_
  refine V_getR C 0 dX8_close_32 o8 rfl hin_X8_close_X8 (by decide) lk_X8_close_12 rfl rfl ?_
  refine V_getNR C 4 (host := "DockTree") dX8_close_35 o7 rfl hin_X8_close_X7 (by decide) (by decide +kernel) rfl rfl ?_
  refine V_iload_n C dX8_close_38 rfl ?_
  refine V_callVD (nA := 1) C dX8_close_39 (w_takeAway C.gp hD.2.1.2.2.1 hB1 (by omega) (by omega)) gX8_close_X4_takeAway rfl o4 rfl (by decide +kernel) rfl (by decide) (by decide) (Nat.le_of_ble_eq_true rfl) ⟨by omega, by omega⟩ rfl ?_
  refine V_aload_n C dX8_close_42 rfl ?_
  refine V_callVD (nA := 0) C dX8_close_43 (k_settle C.gp hD (R32_putL hR1 (hB3.r32 (by omega))) (lay_putL_bd (by omega) hB3) (by omega)) gX8_close_X8_settle rfl o8 rfl (by decide +kernel) rfl (by decide) (by decide) (Nat.le_of_ble_eq_true rfl) ⟨by omega, by omega⟩ rfl ?_
  refine V_iload_n C dX8_close_46 rfl ?_
  refine V_ireturn C E dX8_close_47 (by omega) (by omega) ?_
  exact Dt_rfl
-- X8_close
theorem x_close (hG : GP G) (hGX : GX G) (hl9 : l.stackTraces = false) (hD : DoS S a c h t p b q) (hW : Wo mu c h t p) {x : Int} (hx : -2147483648 ≤ x ∧ x ≤ 2147483647) (hf : fpF mu c x = 1 ∨ fpF mu c x = 2 ∨ fpF mu c x = 3) : CtX G l yX8_close wsX8_close 7 [.ref a, .int (I32 x)] S n mu la (exn (fpF mu c x)) := by
  have o8 := hD.1
  have o7 := hD.2.1.1
  refine CtX.ofV (cc := cX8_close) (nL := 3) (ret := (some .int)) [some (.ref a), some (.int (I32 x)), none] hG (by decide) rfl (Nat.le_of_ble_eq_true rfl) rfl ?_
  rintro X rfl rfl C hcl hsl hnt E
  refine V_aload_n C dX8_close_0 rfl ?_
  refine V_iload_n C dX8_close_1 rfl ?_
  refine V_callVD (nA := 1) C dX8_close_2 (k_faultOfPane C.gp hD hW hx) gX8_close_X8_faultOfPane rfl o8 rfl (by decide +kernel) rfl (by decide) (by decide) (Nat.le_of_ble_eq_true rfl) ⟨by omega, by omega⟩ rfl ?_
  exact V_callSX (nA := 1) C hcl hsl hnt E dX8_close_5 (c_throwIfX C.gp hGX hl9 hf) gX8_close_X8_throwIf rfl (by decide +kernel) rfl (by omega) (by decide) (Nat.le_of_ble_eq_true rfl) rfl
set_option maxRecDepth 20000 in
theorem ggX8_activate_X8_faultOfOpenPane : GoodIn wsX8_activate wsX8_faultOfOpenPane := goodIn_r _ [7, 2, 8, 9, 10, 6, 11, 12, 13, 14, 15, 16, 17, 18, 19, 20, 21, 22, 23, 101, 102, 103, 104, 105, 106, 107, 108, 109, 110, 111, 112, 113, 114, 115, 116, 117, 118, 119, 120, 121] (by decide +kernel) (by decide +kernel)
set_option maxRecDepth 20000 in
theorem gX8_activate_X8_faultOfOpenPane : GoodIn wsX8_activate (wsV RX8 143 RX8 yX8_faultOfOpenPane wsX8_faultOfOpenPane) := goodIn_app (goodIn_of _ (by decide +kernel)) ggX8_activate_X8_faultOfOpenPane
set_option maxRecDepth 20000 in
theorem ggX8_activate_X8_throwIf : GoodIn wsX8_activate wsX8_throwIf := goodIn_ca (goodIn_ca (goodIn_ca (goodIn_r _ [26, 27, 28, 29, 30, 31, 32] (by decide +kernel) (by decide +kernel)) (goodIn_sub (fun _ h => List.mem_cons_of_mem _ (List.mem_append_left _ (List.mem_append_left _ (List.mem_append_right _ h)))) (by decide +kernel))) (goodIn_sub (fun _ h => List.mem_cons_of_mem _ (List.mem_append_left _ (List.mem_append_right _ h))) (by decide +kernel))) (goodIn_sub (fun _ h => List.mem_cons_of_mem _ (List.mem_append_right _ h)) (by decide +kernel))
set_option maxRecDepth 20000 in
theorem gX8_activate_X8_throwIf : GoodIn wsX8_activate (va_wsS RX8 51 yX8_throwIf wsX8_throwIf) := goodIn_app (goodIn_of _ (by decide +kernel)) ggX8_activate_X8_throwIf
set_option maxRecDepth 20000 in
theorem ggX8_activate_X3_push : GoodIn wsX8_activate wsX3_push := goodIn_r _ [37, 38, 39, 40, 41, 42, 43, 44, 45, 46, 36, 47, 48, 49, 50, 51, 52, 53, 54, 55, 56, 57, 58, 59, 60, 6, 61, 62, 63, 64, 65, 66, 67, 68, 69, 19, 70, 21, 71, 72, 73, 74, 75, 76, 77, 78, 79, 80, 81, 82, 83, 84, 85, 86, 22, 23, 122, 123, 124, 107, 108, 109, 110, 111, 112, 113, 114, 115, 116, 117, 118, 119, 120, 121] (by decide +kernel) (by decide +kernel)
set_option maxRecDepth 20000 in
theorem gX8_activate_X3_push : GoodIn wsX8_activate (wsV RX8 55 RX3 yX3_push wsX3_push) := goodIn_app (goodIn_of _ (by decide +kernel)) ggX8_activate_X3_push
set_option maxRecDepth 20000 in
theorem ggX8_activate_X4_holderOf : GoodIn wsX8_activate wsX4_holderOf := goodIn_r _ [90, 21, 22, 6, 23, 114, 115, 116, 117, 118, 119, 120, 121] (by decide +kernel) (by decide +kernel)
set_option maxRecDepth 20000 in
theorem gX8_activate_X4_holderOf : GoodIn wsX8_activate (wsV RX8 103 RX4 yX4_holderOf wsX4_holderOf) := goodIn_app (goodIn_of _ (by decide +kernel)) ggX8_activate_X4_holderOf
set_option maxRecDepth 20000 in
theorem ggX8_activate_X4_activeOf : GoodIn wsX8_activate wsX4_activeOf := goodIn_r _ [94, 74, 22, 6, 23, 114, 115, 116, 117, 118, 119, 120, 121] (by decide +kernel) (by decide +kernel)
set_option maxRecDepth 20000 in
theorem gX8_activate_X4_activeOf : GoodIn wsX8_activate (wsV RX8 146 RX4 yX4_activeOf wsX4_activeOf) := goodIn_app (goodIn_of _ (by decide +kernel)) ggX8_activate_X4_activeOf
set_option maxRecDepth 20000 in
theorem ggX8_activate_X4_changeActive : GoodIn wsX8_activate wsX4_changeActive := goodIn_r _ [98, 74, 99, 6, 100, 114, 115, 116, 117, 118, 119, 120, 121] (by decide +kernel) (by decide +kernel)
set_option maxRecDepth 20000 in
theorem gX8_activate_X4_changeActive : GoodIn wsX8_activate (wsV RX8 149 RX4 yX4_changeActive wsX4_changeActive) := goodIn_app (goodIn_of _ (by decide +kernel)) ggX8_activate_X4_changeActive
theorem dX8_activate_0 : decode cX8_activate 0 = .ok (.aload_n 0, 1) := by decide +kernel
theorem dX8_activate_1 : decode cX8_activate 1 = .ok (.iload_n 1, 1) := by decide +kernel
theorem dX8_activate_2 : decode cX8_activate 2 = .ok (.invokevirtual 143, 3) := by decide +kernel
theorem dX8_activate_5 : decode cX8_activate 5 = .ok (.invokestatic 51, 3) := by decide +kernel
theorem dX8_activate_8 : decode cX8_activate 8 = .ok (.aload_n 0, 1) := by decide +kernel
theorem dX8_activate_9 : decode cX8_activate 9 = .ok (.getfield 19, 3) := by decide +kernel
theorem dX8_activate_12 : decode cX8_activate 12 = .ok (.aload_n 0, 1) := by decide +kernel
theorem dX8_activate_13 : decode cX8_activate 13 = .ok (.getfield 12, 3) := by decide +kernel
theorem dX8_activate_16 : decode cX8_activate 16 = .ok (.invokevirtual 55, 3) := by decide +kernel
theorem dX8_activate_19 : decode cX8_activate 19 = .ok (.aload_n 0, 1) := by decide +kernel
theorem dX8_activate_20 : decode cX8_activate 20 = .ok (.getfield 12, 3) := by decide +kernel
theorem dX8_activate_23 : decode cX8_activate 23 = .ok (.getfield 97, 3) := by decide +kernel
theorem dX8_activate_26 : decode cX8_activate 26 = .ok (.iload_n 1, 1) := by decide +kernel
theorem dX8_activate_27 : decode cX8_activate 27 = .ok (.invokevirtual 103, 3) := by decide +kernel
theorem dX8_activate_30 : decode cX8_activate 30 = .ok (.istore_n 2, 1) := by decide +kernel
theorem dX8_activate_31 : decode cX8_activate 31 = .ok (.aload_n 0, 1) := by decide +kernel
theorem dX8_activate_32 : decode cX8_activate 32 = .ok (.getfield 12, 3) := by decide +kernel
theorem dX8_activate_35 : decode cX8_activate 35 = .ok (.getfield 97, 3) := by decide +kernel
theorem dX8_activate_38 : decode cX8_activate 38 = .ok (.iload_n 2, 1) := by decide +kernel
theorem dX8_activate_39 : decode cX8_activate 39 = .ok (.invokevirtual 146, 3) := by decide +kernel
theorem dX8_activate_42 : decode cX8_activate 42 = .ok (.istore_n 3, 1) := by decide +kernel
theorem dX8_activate_43 : decode cX8_activate 43 = .ok (.aload_n 0, 1) := by decide +kernel
theorem dX8_activate_44 : decode cX8_activate 44 = .ok (.getfield 12, 3) := by decide +kernel
theorem dX8_activate_47 : decode cX8_activate 47 = .ok (.getfield 97, 3) := by decide +kernel
theorem dX8_activate_50 : decode cX8_activate 50 = .ok (.iload_n 2, 1) := by decide +kernel
theorem dX8_activate_51 : decode cX8_activate 51 = .ok (.iload_n 1, 1) := by decide +kernel
theorem dX8_activate_52 : decode cX8_activate 52 = .ok (.invokevirtual 149, 3) := by decide +kernel
theorem dX8_activate_55 : decode cX8_activate 55 = .ok (.iload_n 3, 1) := by decide +kernel
theorem dX8_activate_56 : decode cX8_activate 56 = .ok (.ireturn, 1) := by decide +kernel
theorem hin_X8_activate_X8 : ∀ w ∈ wsX80, w ∈ wsX8_activate := by decide +kernel
theorem lk_X8_activate_19 : Cond.fieldLink RX8 19 RX8 "history" "LDockTree$History;" ∈ wsX8_activate := by decide +kernel
theorem lk_X8_activate_12 : Cond.fieldLink RX8 12 RX8 "now" "LDockTree$State;" ∈ wsX8_activate := by decide +kernel
theorem hin_X8_activate_X7 : ∀ w ∈ wsX70, w ∈ wsX8_activate := by decide +kernel
theorem k_activate (hG : GP G) (hD : DoS S a c h t p b q) (hW : Wo mu c h t p) {x : Int} (hx : -2147483648 ≤ x ∧ x ≤ 2147483647) (hf : foF mu c x = 0) : Ct G l yX8_activate wsX8_activate 6 0 0 [.ref a, .int (I32 x)] S n mu la (Dt (some (.int (I32 (gL (lay (pshM mu c h) (c + 2)) 4 (gL (lay (pshM mu c h) (c + 2)) 0 x - 16))))) S n (putL (pshM mu c h) (c + 2) (sL (lay (pshM mu c h) (c + 2)) 4 (gL (lay (pshM mu c h) (c + 2)) 0 x - 16) x)) la) := by
  have o8 := hD.1
  have o7 := hD.2.1.1
  have o3 := hD.2.2.1.1
  have o5 := hD.2.2.2.2.1.1
  have o4 := hD.2.1.2.2.1.1
  have dj := hD.2.2.2.2.2.2.2
  have hn := hW.2.2.2.1
  have hz9 := hW.2.2.2.2.1
  have hR1 := R32_pshM (c := c) hW.1 hn hz9
  have l1 : lay (pshM mu c h) (c + 2) = lay mu (c + 2) := lay_psh hn (by omega)
  have hB1 : Bd 16000000 (lay (pshM mu c h) (c + 2)) := by rw [l1]; exact hW.2.1
  refine Ct.ofV (cc := cX8_activate) (nL := 4) (ret := (some .int)) [some (.ref a), some (.int (I32 x)), none, none] hG (by decide) rfl (Nat.le_of_ble_eq_true rfl) rfl ?_
  rintro X rfl rfl C hcl hsl E
  refine V_aload_n C dX8_activate_0 rfl ?_
  refine V_iload_n C dX8_activate_1 rfl ?_
  refine V_callVD (nA := 1) C dX8_activate_2 (k_faultOfOpenPane C.gp hD hW hx) gX8_activate_X8_faultOfOpenPane rfl o8 rfl (by decide +kernel) rfl (by decide) (by decide) (Nat.le_of_ble_eq_true rfl) ⟨by omega, by omega⟩ rfl ?_
  rw [hf]
  refine V_callSD (nA := 1) C dX8_activate_5 (c_throwIf0 C.gp) gX8_activate_X8_throwIf rfl (by decide +kernel) rfl (by decide) (by decide) (Nat.le_of_ble_eq_true rfl) ⟨by omega, by omega⟩ rfl ?_
  refine V_aload_n C dX8_activate_8 rfl ?_
  refine V_getR C 1 dX8_activate_9 o8 rfl hin_X8_activate_X8 (by decide) lk_X8_activate_19 rfl rfl ?_
  refine V_aload_n C dX8_activate_12 rfl ?_
  refine V_getR C 0 dX8_activate_13 o8 rfl hin_X8_activate_X8 (by decide) lk_X8_activate_12 rfl rfl ?_
  refine V_callVD (nA := 1) C dX8_activate_16 (c_push C.gp hD.2.2.1 hD.2.1 (by omega) hW.1 hn hz9) gX8_activate_X3_push rfl o3 rfl (by decide +kernel) rfl (by decide) (by decide) (Nat.le_of_ble_eq_true rfl) ⟨by omega, by omega⟩ rfl ?_
  refine V_aload_n C dX8_activate_19 rfl ?_
  refine V_getR C 0 dX8_activate_20 o8 rfl hin_X8_activate_X8 (by decide) lk_X8_activate_12 rfl rfl ?_
  refine V_getNR C 4 (host := "DockTree") dX8_activate_23 o7 rfl hin_X8_activate_X7 (by decide) (by decide +kernel) rfl rfl ?_
  refine V_iload_n C dX8_activate_26 rfl ?_
  refine V_callVD (nA := 1) C dX8_activate_27 (w_holderOf C.gp hD.2.1.2.2.1) gX8_activate_X4_holderOf rfl o4 rfl (by decide +kernel) rfl (by decide) (by decide) (Nat.le_of_ble_eq_true rfl) ⟨by omega, by omega⟩ rfl ?_
  refine V_istore_n C dX8_activate_30 rfl (by decide) ?_
  refine V_aload_n C dX8_activate_31 rfl ?_
  refine V_getR C 0 dX8_activate_32 o8 rfl hin_X8_activate_X8 (by decide) lk_X8_activate_12 rfl rfl ?_
  refine V_getNR C 4 (host := "DockTree") dX8_activate_35 o7 rfl hin_X8_activate_X7 (by decide) (by decide +kernel) rfl rfl ?_
  refine V_iload_n C dX8_activate_38 rfl ?_
  refine V_callVD (nA := 1) C dX8_activate_39 (w_activeOf C.gp hD.2.1.2.2.1) gX8_activate_X4_activeOf rfl o4 rfl (by decide +kernel) rfl (by decide) (by decide) (Nat.le_of_ble_eq_true rfl) ⟨by omega, by omega⟩ rfl ?_
  refine V_istore_n C dX8_activate_42 rfl (by decide) ?_
  refine V_aload_n C dX8_activate_43 rfl ?_
  refine V_getR C 0 dX8_activate_44 o8 rfl hin_X8_activate_X8 (by decide) lk_X8_activate_12 rfl rfl ?_
  refine V_getNR C 4 (host := "DockTree") dX8_activate_47 o7 rfl hin_X8_activate_X7 (by decide) (by decide +kernel) rfl rfl ?_
  refine V_iload_n C dX8_activate_50 rfl ?_
  refine V_iload_n C dX8_activate_51 rfl ?_
  refine V_callVD (nA := 2) C dX8_activate_52 (ws_changeActive C.gp hD.2.1.2.2.1) gX8_activate_X4_changeActive rfl o4 rfl (by decide +kernel) rfl (by decide) (by decide) (Nat.le_of_ble_eq_true rfl) ⟨by omega, by omega⟩ rfl ?_
  refine V_iload_n C dX8_activate_55 rfl ?_
  refine V_ireturn C E dX8_activate_56 (by omega) (by omega) ?_
  exact Dt_rfl
-- X8_activate
theorem x_activate (hG : GP G) (hGX : GX G) (hl9 : l.stackTraces = false) (hD : DoS S a c h t p b q) (hW : Wo mu c h t p) {x : Int} (hx : -2147483648 ≤ x ∧ x ≤ 2147483647) (hf : foF mu c x = 1 ∨ foF mu c x = 2 ∨ foF mu c x = 3) : CtX G l yX8_activate wsX8_activate 7 [.ref a, .int (I32 x)] S n mu la (exn (foF mu c x)) := by
  have o8 := hD.1
  have o7 := hD.2.1.1
  refine CtX.ofV (cc := cX8_activate) (nL := 4) (ret := (some .int)) [some (.ref a), some (.int (I32 x)), none, none] hG (by decide) rfl (Nat.le_of_ble_eq_true rfl) rfl ?_
  rintro X rfl rfl C hcl hsl hnt E
  refine V_aload_n C dX8_activate_0 rfl ?_
  refine V_iload_n C dX8_activate_1 rfl ?_
  refine V_callVD (nA := 1) C dX8_activate_2 (k_faultOfOpenPane C.gp hD hW hx) gX8_activate_X8_faultOfOpenPane rfl o8 rfl (by decide +kernel) rfl (by decide) (by decide) (Nat.le_of_ble_eq_true rfl) ⟨by omega, by omega⟩ rfl ?_
  exact V_callSX (nA := 1) C hcl hsl hnt E dX8_activate_5 (c_throwIfX C.gp hGX hl9 hf) gX8_activate_X8_throwIf rfl (by decide +kernel) rfl (by omega) (by decide) (Nat.le_of_ble_eq_true rfl) rfl
set_option maxRecDepth 20000 in
theorem ggX8_moveTab_X8_faultOfMoving : GoodIn wsX8_moveTab wsX8_faultOfMoving := goodIn_r _ [7, 2, 8, 9, 10, 6, 11, 12, 13, 14, 15, 16, 17, 18, 19, 20, 21, 22, 23, 24, 25, 26, 27, 28, 29, 30, 31, 32, 33, 34, 35, 36, 37, 38, 39, 258, 259, 260, 261, 262, 263, 264, 265, 266, 267, 268, 269, 270, 271, 272, 273, 274, 275, 276, 277, 278] (by decide +kernel) (by decide +kernel)
set_option maxRecDepth 20000 in
theorem gX8_moveTab_X8_faultOfMoving : GoodIn wsX8_moveTab (wsV RX8 152 RX8 yX8_faultOfMoving wsX8_faultOfMoving) := goodIn_app (goodIn_of _ (by decide +kernel)) ggX8_moveTab_X8_faultOfMoving
set_option maxRecDepth 20000 in
theorem ggX8_moveTab_X8_throwIf : GoodIn wsX8_moveTab wsX8_throwIf := goodIn_ca (goodIn_ca (goodIn_ca (goodIn_r _ [42, 43, 44, 45, 46, 47, 48] (by decide +kernel) (by decide +kernel)) (goodIn_sub (fun _ h => List.mem_cons_of_mem _ (List.mem_append_left _ (List.mem_append_left _ (List.mem_append_right _ h)))) (by decide +kernel))) (goodIn_sub (fun _ h => List.mem_cons_of_mem _ (List.mem_append_left _ (List.mem_append_right _ h))) (by decide +kernel))) (goodIn_sub (fun _ h => List.mem_cons_of_mem _ (List.mem_append_right _ h)) (by decide +kernel))
set_option maxRecDepth 20000 in
theorem gX8_moveTab_X8_throwIf : GoodIn wsX8_moveTab (va_wsS RX8 51 yX8_throwIf wsX8_throwIf) := goodIn_app (goodIn_of _ (by decide +kernel)) ggX8_moveTab_X8_throwIf
set_option maxRecDepth 20000 in
theorem ggX8_moveTab_X3_push : GoodIn wsX8_moveTab wsX3_push := goodIn_r _ [53, 54, 55, 56, 57, 58, 59, 60, 61, 62, 52, 63, 64, 65, 66, 67, 68, 69, 70, 71, 72, 73, 74, 75, 76, 6, 77, 78, 79, 80, 81, 82, 83, 84, 85, 23, 86, 25, 87, 36, 88, 89, 90, 91, 92, 93, 94, 95, 96, 97, 98, 99, 100, 101, 26, 27, 279, 280, 281, 264, 265, 266, 267, 268, 269, 270, 271, 272, 273, 274, 275, 276, 277, 278] (by decide +kernel) (by decide +kernel)
set_option maxRecDepth 20000 in
theorem gX8_moveTab_X3_push : GoodIn wsX8_moveTab (wsV RX8 55 RX3 yX3_push wsX3_push) := goodIn_app (goodIn_of _ (by decide +kernel)) ggX8_moveTab_X3_push
set_option maxRecDepth 20000 in
theorem ggX8_moveTab_X4_placeOf : GoodIn wsX8_moveTab wsX4_placeOf := goodIn_r _ [105, 87, 26, 6, 27, 271, 272, 273, 274, 275, 276, 277, 278] (by decide +kernel) (by decide +kernel)
set_option maxRecDepth 20000 in
theorem gX8_moveTab_X4_placeOf : GoodIn wsX8_moveTab (wsV RX8 155 RX4 yX4_placeOf wsX4_placeOf) := goodIn_app (goodIn_of _ (by decide +kernel)) ggX8_moveTab_X4_placeOf
set_option maxRecDepth 20000 in
theorem ggX8_moveTab_X4_moveWithinGroup : GoodIn wsX8_moveTab wsX4_moveWithinGroup := goodIn_r _ [109, 25, 26, 6, 27, 110, 111, 112, 23, 113, 87, 36, 114, 115, 116, 117, 118, 119, 271, 272, 273, 274, 275, 276, 277, 278] (by decide +kernel) (by decide +kernel)
set_option maxRecDepth 20000 in
theorem gX8_moveTab_X4_moveWithinGroup : GoodIn wsX8_moveTab (wsV RX8 158 RX4 yX4_moveWithinGroup wsX4_moveWithinGroup) := goodIn_app (goodIn_of _ (by decide +kernel)) ggX8_moveTab_X4_moveWithinGroup
set_option maxRecDepth 20000 in
theorem ggX8_moveTab_X8_settle : GoodIn wsX8_moveTab wsX8_settle := goodIn_s _ [(123, 2), (2, 1), (125, 19), (29, 2), (23, 1), (31, 1), (25, 2), (6, 1), (27, 1), (144, 1), (103, 3), (87, 1), (114, 2), (145, 11), (33, 4), (156, 9), (58, 1), (165, 5), (90, 1), (170, 9), (91, 1), (179, 4), (92, 1), (183, 35), (88, 1), (218, 53), (282, 13), (271, 8), (295, 6)] (by rfl) (by decide +kernel)
set_option maxRecDepth 20000 in
theorem gX8_moveTab_X8_settle : GoodIn wsX8_moveTab (wsV RX8 66 RX8 yX8_settle wsX8_settle) := goodIn_app (goodIn_of _ (by decide +kernel)) ggX8_moveTab_X8_settle
theorem dX8_moveTab_0 : decode cX8_moveTab 0 = .ok (.aload_n 0, 1) := by decide +kernel
theorem dX8_moveTab_1 : decode cX8_moveTab 1 = .ok (.iload_n 1, 1) := by decide +kernel
theorem dX8_moveTab_2 : decode cX8_moveTab 2 = .ok (.iload_n 2, 1) := by decide +kernel
theorem dX8_moveTab_3 : decode cX8_moveTab 3 = .ok (.invokevirtual 152, 3) := by decide +kernel
theorem dX8_moveTab_6 : decode cX8_moveTab 6 = .ok (.invokestatic 51, 3) := by decide +kernel
theorem dX8_moveTab_9 : decode cX8_moveTab 9 = .ok (.aload_n 0, 1) := by decide +kernel
theorem dX8_moveTab_10 : decode cX8_moveTab 10 = .ok (.getfield 19, 3) := by decide +kernel
theorem dX8_moveTab_13 : decode cX8_moveTab 13 = .ok (.aload_n 0, 1) := by decide +kernel
theorem dX8_moveTab_14 : decode cX8_moveTab 14 = .ok (.getfield 12, 3) := by decide +kernel
theorem dX8_moveTab_17 : decode cX8_moveTab 17 = .ok (.invokevirtual 55, 3) := by decide +kernel
theorem dX8_moveTab_20 : decode cX8_moveTab 20 = .ok (.aload_n 0, 1) := by decide +kernel
theorem dX8_moveTab_21 : decode cX8_moveTab 21 = .ok (.getfield 12, 3) := by decide +kernel
theorem dX8_moveTab_24 : decode cX8_moveTab 24 = .ok (.getfield 97, 3) := by decide +kernel
theorem dX8_moveTab_27 : decode cX8_moveTab 27 = .ok (.iload_n 1, 1) := by decide +kernel
theorem dX8_moveTab_28 : decode cX8_moveTab 28 = .ok (.invokevirtual 155, 3) := by decide +kernel
theorem dX8_moveTab_31 : decode cX8_moveTab 31 = .ok (.istore_n 3, 1) := by decide +kernel
theorem dX8_moveTab_32 : decode cX8_moveTab 32 = .ok (.aload_n 0, 1) := by decide +kernel
theorem dX8_moveTab_33 : decode cX8_moveTab 33 = .ok (.getfield 12, 3) := by decide +kernel
theorem dX8_moveTab_36 : decode cX8_moveTab 36 = .ok (.getfield 97, 3) := by decide +kernel
theorem dX8_moveTab_39 : decode cX8_moveTab 39 = .ok (.iload_n 1, 1) := by decide +kernel
theorem dX8_moveTab_40 : decode cX8_moveTab 40 = .ok (.iload_n 2, 1) := by decide +kernel
theorem dX8_moveTab_41 : decode cX8_moveTab 41 = .ok (.invokevirtual 158, 3) := by decide +kernel
theorem dX8_moveTab_44 : decode cX8_moveTab 44 = .ok (.aload_n 0, 1) := by decide +kernel
theorem dX8_moveTab_45 : decode cX8_moveTab 45 = .ok (.invokevirtual 66, 3) := by decide +kernel
theorem dX8_moveTab_48 : decode cX8_moveTab 48 = .ok (.iload_n 3, 1) := by decide +kernel
theorem dX8_moveTab_49 : decode cX8_moveTab 49 = .ok (.ireturn, 1) := by decide +kernel
theorem hin_X8_moveTab_X8 : ∀ w ∈ wsX80, w ∈ wsX8_moveTab := by decide +kernel
theorem lk_X8_moveTab_19 : Cond.fieldLink RX8 19 RX8 "history" "LDockTree$History;" ∈ wsX8_moveTab := by decide +kernel
theorem lk_X8_moveTab_12 : Cond.fieldLink RX8 12 RX8 "now" "LDockTree$State;" ∈ wsX8_moveTab := by decide +kernel
theorem hin_X8_moveTab_X7 : ∀ w ∈ wsX70, w ∈ wsX8_moveTab := by decide +kernel
theorem k_moveTab (hG : GP G) (hD : DoS S a c h t p b q) (hW : Wo mu c h t p) {x y : Int} (hx : -2147483648 ≤ x ∧ x ≤ 2147483647) (hy : -2147483648 ≤ y ∧ y ≤ 2147483647) (hf : fmF mu c x y = 0) : Ct G l yX8_moveTab wsX8_moveTab 6 0 0 [.ref a, .int (I32 x), .int (I32 y)] S n mu la (Dt (some (.int (I32 (gL (lay (pshM mu c h) (c + 2)) 1 x)))) S n (stlM (putL (pshM mu c h) (c + 2) (mvF (lay (pshM mu c h) (c + 2)) x y)) p c) la) := by
  have o8 := hD.1
  have o7 := hD.2.1.1
  have o3 := hD.2.2.1.1
  have o5 := hD.2.2.2.2.1.1
  have o4 := hD.2.1.2.2.1.1
  have dj := hD.2.2.2.2.2.2.2
  have hn := hW.2.2.2.1
  have hz9 := hW.2.2.2.2.1
  have hR1 := R32_pshM (c := c) hW.1 hn hz9
  have l1 : lay (pshM mu c h) (c + 2) = lay mu (c + 2) := lay_psh hn (by omega)
  have hB1 : Bd 16000000 (lay (pshM mu c h) (c + 2)) := by rw [l1]; exact hW.2.1
  have f0 := fmF_0 hf hW.2.2.1.2 hW.2.1
  have hB3 := mvF_bd hB1 (by omega) x (i := y) (by omega)
  refine Ct.ofV (cc := cX8_moveTab) (nL := 4) (ret := (some .int)) [some (.ref a), some (.int (I32 x)), some (.int (I32 y)), none] hG (by decide) rfl (Nat.le_of_ble_eq_true rfl) rfl ?_
  rintro X rfl rfl C hcl hsl E
  refine V_aload_n C dX8_moveTab_0 rfl ?_
  refine V_iload_n C dX8_moveTab_1 rfl ?_
  refine V_iload_n C dX8_moveTab_2 rfl ?_
  refine V_callVD (nA := 2) C dX8_moveTab_3 (k_faultOfMoving C.gp hD hW hx hy) gX8_moveTab_X8_faultOfMoving rfl o8 rfl (by decide +kernel) rfl (by decide) (by decide) (Nat.le_of_ble_eq_true rfl) ⟨by omega, by omega⟩ rfl ?_
  rw [hf]
  refine V_callSD (nA := 1) C dX8_moveTab_6 (c_throwIf0 C.gp) gX8_moveTab_X8_throwIf rfl (by decide +kernel) rfl (by decide) (by decide) (Nat.le_of_ble_eq_true rfl) ⟨by omega, by omega⟩ rfl ?_
  refine V_aload_n C dX8_moveTab_9 rfl ?_
  refine V_getR C 1 dX8_moveTab_10 o8 rfl hin_X8_moveTab_X8 (by decide) lk_X8_moveTab_19 rfl rfl ?_
  refine V_aload_n C dX8_moveTab_13 rfl ?_
  refine V_getR C 0 dX8_moveTab_14 o8 rfl hin_X8_moveTab_X8 (by decide) lk_X8_moveTab_12 rfl rfl ?_
  refine V_callVD (nA := 1) C dX8_moveTab_17 (c_push C.gp hD.2.2.1 hD.2.1 (by omega) hW.1 hn hz9) gX8_moveTab_X3_push rfl o3 rfl (by decide +kernel) rfl (by decide) (by decide) (Nat.le_of_ble_eq_true rfl) ⟨by omega, by omega⟩ rfl ?_
  refine V_aload_n C dX8_moveTab_20 rfl ?_
  refine V_getR C 0 dX8_moveTab_21 o8 rfl hin_X8_moveTab_X8 (by decide) lk_X8_moveTab_12 rfl rfl ?_
  refine V_getNR C 4 (host := "DockTree") dX8_moveTab_24 o7 rfl hin_X8_moveTab_X7 (by decide) (by decide +kernel) rfl rfl ?_
  refine V_iload_n C dX8_moveTab_27 rfl ?_
  refine V_callVD (nA := 1) C dX8_moveTab_28 (w_placeOf C.gp hD.2.1.2.2.1) gX8_moveTab_X4_placeOf rfl o4 rfl (by decide +kernel) rfl (by decide) (by decide) (Nat.le_of_ble_eq_true rfl) ⟨by omega, by omega⟩ rfl ?_
  refine V_istore_n C dX8_moveTab_31 rfl (by decide) ?_
  refine V_aload_n C dX8_moveTab_32 rfl ?_
  refine V_getR C 0 dX8_moveTab_33 o8 rfl hin_X8_moveTab_X8 (by decide) lk_X8_moveTab_12 rfl rfl ?_
  refine V_getNR C 4 (host := "DockTree") dX8_moveTab_36 o7 rfl hin_X8_moveTab_X7 (by decide) (by decide +kernel) rfl rfl ?_
  refine V_iload_n C dX8_moveTab_39 rfl ?_
  refine V_iload_n C dX8_moveTab_40 rfl ?_
  refine V_callVD (nA := 2) C dX8_moveTab_41 (w_moveWithinGroup C.gp hD.2.1.2.2.1 hB1 (by omega) (by omega) (by omega)) gX8_moveTab_X4_moveWithinGroup rfl o4 rfl (by decide +kernel) rfl (by decide) (by decide) (Nat.le_of_ble_eq_true rfl) ⟨by omega, by omega⟩ rfl ?_
  refine V_aload_n C dX8_moveTab_44 rfl ?_
  refine V_callVD (nA := 0) C dX8_moveTab_45 (k_settle C.gp hD (R32_putL hR1 (hB3.r32 (by omega))) (lay_putL_bd (by omega) hB3) (by omega)) gX8_moveTab_X8_settle rfl o8 rfl (by decide +kernel) rfl (by decide) (by decide) (Nat.le_of_ble_eq_true rfl) ⟨by omega, by omega⟩ rfl ?_
  refine V_iload_n C dX8_moveTab_48 rfl ?_
  refine V_ireturn C E dX8_moveTab_49 (by omega) (by omega) ?_
  exact Dt_rfl
-- X8_moveTab
theorem x_moveTab (hG : GP G) (hGX : GX G) (hl9 : l.stackTraces = false) (hD : DoS S a c h t p b q) (hW : Wo mu c h t p) {x y : Int} (hx : -2147483648 ≤ x ∧ x ≤ 2147483647) (hy : -2147483648 ≤ y ∧ y ≤ 2147483647) (hf : fmF mu c x y = 1 ∨ fmF mu c x y = 2 ∨ fmF mu c x y = 3) : CtX G l yX8_moveTab wsX8_moveTab 7 [.ref a, .int (I32 x), .int (I32 y)] S n mu la (exn (fmF mu c x y)) := by
  have o8 := hD.1
  have o7 := hD.2.1.1
  refine CtX.ofV (cc := cX8_moveTab) (nL := 4) (ret := (some .int)) [some (.ref a), some (.int (I32 x)), some (.int (I32 y)), none] hG (by decide) rfl (Nat.le_of_ble_eq_true rfl) rfl ?_
  rintro X rfl rfl C hcl hsl hnt E
  refine V_aload_n C dX8_moveTab_0 rfl ?_
  refine V_iload_n C dX8_moveTab_1 rfl ?_
  refine V_iload_n C dX8_moveTab_2 rfl ?_
  refine V_callVD (nA := 2) C dX8_moveTab_3 (k_faultOfMoving C.gp hD hW hx hy) gX8_moveTab_X8_faultOfMoving rfl o8 rfl (by decide +kernel) rfl (by decide) (by decide) (Nat.le_of_ble_eq_true rfl) ⟨by omega, by omega⟩ rfl ?_
  exact V_callSX (nA := 1) C hcl hsl hnt E dX8_moveTab_6 (c_throwIfX C.gp hGX hl9 hf) gX8_moveTab_X8_throwIf rfl (by decide +kernel) rfl (by omega) (by decide) (Nat.le_of_ble_eq_true rfl) rfl
set_option maxRecDepth 20000 in
theorem ggX8_setShare_X8_faultOfShare : GoodIn wsX8_setShare wsX8_faultOfShare := goodIn_r _ [7, 8, 2, 9, 10, 11, 6, 12, 13, 14, 15, 16, 17, 18, 19, 20, 21, 22, 23, 236, 237, 238, 239, 240, 241, 242, 243, 244, 245, 246, 247, 248, 249, 250, 251, 252, 253, 254, 255, 256] (by decide +kernel) (by decide +kernel)
set_option maxRecDepth 20000 in
theorem gX8_setShare_X8_faultOfShare : GoodIn wsX8_setShare (wsV RX8 161 RX8 yX8_faultOfShare wsX8_faultOfShare) := goodIn_app (goodIn_of _ (by decide +kernel)) ggX8_setShare_X8_faultOfShare
set_option maxRecDepth 20000 in
theorem ggX8_setShare_X8_throwIf : GoodIn wsX8_setShare wsX8_throwIf := goodIn_ca (goodIn_ca (goodIn_ca (goodIn_r _ [26, 27, 28, 29, 30, 31, 32] (by decide +kernel) (by decide +kernel)) (goodIn_sub (fun _ h => List.mem_cons_of_mem _ (List.mem_append_left _ (List.mem_append_left _ (List.mem_append_right _ h)))) (by decide +kernel))) (goodIn_sub (fun _ h => List.mem_cons_of_mem _ (List.mem_append_left _ (List.mem_append_right _ h))) (by decide +kernel))) (goodIn_sub (fun _ h => List.mem_cons_of_mem _ (List.mem_append_right _ h)) (by decide +kernel))
set_option maxRecDepth 20000 in
theorem gX8_setShare_X8_throwIf : GoodIn wsX8_setShare (va_wsS RX8 51 yX8_throwIf wsX8_throwIf) := goodIn_app (goodIn_of _ (by decide +kernel)) ggX8_setShare_X8_throwIf
set_option maxRecDepth 20000 in
theorem ggX8_setShare_X3_push : GoodIn wsX8_setShare wsX3_push := goodIn_r _ [37, 38, 39, 40, 41, 42, 43, 44, 45, 46, 36, 47, 48, 49, 50, 51, 52, 53, 54, 55, 56, 57, 58, 59, 60, 6, 61, 62, 63, 64, 65, 66, 67, 68, 69, 16, 70, 18, 71, 72, 73, 74, 75, 76, 77, 78, 79, 80, 81, 82, 83, 84, 85, 86, 19, 20, 257, 258, 259, 242, 243, 244, 245, 246, 247, 248, 249, 250, 251, 252, 253, 254, 255, 256] (by decide +kernel) (by decide +kernel)
set_option maxRecDepth 20000 in
theorem gX8_setShare_X3_push : GoodIn wsX8_setShare (wsV RX8 55 RX3 yX3_push wsX3_push) := goodIn_app (goodIn_of _ (by decide +kernel)) ggX8_setShare_X3_push
set_option maxRecDepth 20000 in
theorem ggX8_setShare_X4_holderOf : GoodIn wsX8_setShare wsX4_holderOf := goodIn_r _ [17, 18, 19, 6, 20, 249, 250, 251, 252, 253, 254, 255, 256] (by decide +kernel) (by decide +kernel)
set_option maxRecDepth 20000 in
theorem gX8_setShare_X4_holderOf : GoodIn wsX8_setShare (wsV RX8 103 RX4 yX4_holderOf wsX4_holderOf) := goodIn_app (goodIn_of _ (by decide +kernel)) ggX8_setShare_X4_holderOf
set_option maxRecDepth 20000 in
theorem ggX8_setShare_X4_weightOf : GoodIn wsX8_setShare wsX4_weightOf := goodIn_r _ [90, 73, 19, 6, 20, 249, 250, 251, 252, 253, 254, 255, 256] (by decide +kernel) (by decide +kernel)
set_option maxRecDepth 20000 in
theorem gX8_setShare_X4_weightOf : GoodIn wsX8_setShare (wsV RX8 164 RX4 yX4_weightOf wsX4_weightOf) := goodIn_app (goodIn_of _ (by decide +kernel)) ggX8_setShare_X4_weightOf
set_option maxRecDepth 20000 in
theorem ggX8_setShare_X4_changeWeight : GoodIn wsX8_setShare wsX4_changeWeight := goodIn_r _ [94, 73, 95, 6, 96, 249, 250, 251, 252, 253, 254, 255, 256] (by decide +kernel) (by decide +kernel)
set_option maxRecDepth 20000 in
theorem gX8_setShare_X4_changeWeight : GoodIn wsX8_setShare (wsV RX8 167 RX4 yX4_changeWeight wsX4_changeWeight) := goodIn_app (goodIn_of _ (by decide +kernel)) ggX8_setShare_X4_changeWeight
set_option maxRecDepth 20000 in
theorem ggX8_setShare_X8_settle : GoodIn wsX8_setShare wsX8_settle := goodIn_s _ [(100, 2), (2, 1), (102, 19), (14, 6), (6, 1), (20, 1), (121, 4), (71, 1), (95, 2), (125, 14), (72, 1), (22, 2), (139, 7), (42, 1), (146, 5), (75, 1), (151, 9), (76, 1), (160, 4), (77, 1), (164, 32), (88, 3), (73, 1), (196, 53), (260, 13), (249, 8), (273, 6)] (by rfl) (by decide +kernel)
set_option maxRecDepth 20000 in
theorem gX8_setShare_X8_settle : GoodIn wsX8_setShare (wsV RX8 66 RX8 yX8_settle wsX8_settle) := goodIn_app (goodIn_of _ (by decide +kernel)) ggX8_setShare_X8_settle
theorem dX8_setShare_0 : decode cX8_setShare 0 = .ok (.aload_n 0, 1) := by decide +kernel
theorem dX8_setShare_1 : decode cX8_setShare 1 = .ok (.iload_n 1, 1) := by decide +kernel
theorem dX8_setShare_2 : decode cX8_setShare 2 = .ok (.iload_n 2, 1) := by decide +kernel
theorem dX8_setShare_3 : decode cX8_setShare 3 = .ok (.invokevirtual 161, 3) := by decide +kernel
theorem dX8_setShare_6 : decode cX8_setShare 6 = .ok (.invokestatic 51, 3) := by decide +kernel
theorem dX8_setShare_9 : decode cX8_setShare 9 = .ok (.aload_n 0, 1) := by decide +kernel
theorem dX8_setShare_10 : decode cX8_setShare 10 = .ok (.getfield 19, 3) := by decide +kernel
theorem dX8_setShare_13 : decode cX8_setShare 13 = .ok (.aload_n 0, 1) := by decide +kernel
theorem dX8_setShare_14 : decode cX8_setShare 14 = .ok (.getfield 12, 3) := by decide +kernel
theorem dX8_setShare_17 : decode cX8_setShare 17 = .ok (.invokevirtual 55, 3) := by decide +kernel
theorem dX8_setShare_20 : decode cX8_setShare 20 = .ok (.aload_n 0, 1) := by decide +kernel
theorem dX8_setShare_21 : decode cX8_setShare 21 = .ok (.getfield 12, 3) := by decide +kernel
theorem dX8_setShare_24 : decode cX8_setShare 24 = .ok (.getfield 97, 3) := by decide +kernel
theorem dX8_setShare_27 : decode cX8_setShare 27 = .ok (.iload_n 1, 1) := by decide +kernel
theorem dX8_setShare_28 : decode cX8_setShare 28 = .ok (.invokevirtual 103, 3) := by decide +kernel
theorem dX8_setShare_31 : decode cX8_setShare 31 = .ok (.istore_n 3, 1) := by decide +kernel
theorem dX8_setShare_32 : decode cX8_setShare 32 = .ok (.aload_n 0, 1) := by decide +kernel
theorem dX8_setShare_33 : decode cX8_setShare 33 = .ok (.getfield 12, 3) := by decide +kernel
theorem dX8_setShare_36 : decode cX8_setShare 36 = .ok (.getfield 97, 3) := by decide +kernel
theorem dX8_setShare_39 : decode cX8_setShare 39 = .ok (.iload_n 3, 1) := by decide +kernel
theorem dX8_setShare_40 : decode cX8_setShare 40 = .ok (.invokevirtual 164, 3) := by decide +kernel
theorem dX8_setShare_43 : decode cX8_setShare 43 = .ok (.istore 4, 2) := by decide +kernel
theorem dX8_setShare_45 : decode cX8_setShare 45 = .ok (.aload_n 0, 1) := by decide +kernel
theorem dX8_setShare_46 : decode cX8_setShare 46 = .ok (.getfield 12, 3) := by decide +kernel
theorem dX8_setShare_49 : decode cX8_setShare 49 = .ok (.getfield 97, 3) := by decide +kernel
theorem dX8_setShare_52 : decode cX8_setShare 52 = .ok (.iload_n 3, 1) := by decide +kernel
theorem dX8_setShare_53 : decode cX8_setShare 53 = .ok (.iload_n 2, 1) := by decide +kernel
theorem dX8_setShare_54 : decode cX8_setShare 54 = .ok (.invokevirtual 167, 3) := by decide +kernel
theorem dX8_setShare_57 : decode cX8_setShare 57 = .ok (.aload_n 0, 1) := by decide +kernel
theorem dX8_setShare_58 : decode cX8_setShare 58 = .ok (.invokevirtual 66, 3) := by decide +kernel
theorem dX8_setShare_61 : decode cX8_setShare 61 = .ok (.iload 4, 2) := by decide +kernel
theorem dX8_setShare_63 : decode cX8_setShare 63 = .ok (.ireturn, 1) := by decide +kernel
theorem hin_X8_setShare_X8 : ∀ w ∈ wsX80, w ∈ wsX8_setShare := by decide +kernel
theorem lk_X8_setShare_19 : Cond.fieldLink RX8 19 RX8 "history" "LDockTree$History;" ∈ wsX8_setShare := by decide +kernel
theorem lk_X8_setShare_12 : Cond.fieldLink RX8 12 RX8 "now" "LDockTree$State;" ∈ wsX8_setShare := by decide +kernel
theorem hin_X8_setShare_X7 : ∀ w ∈ wsX70, w ∈ wsX8_setShare := by decide +kernel
theorem k_setShare (hG : GP G) (hD : DoS S a c h t p b q) (hW : Wo mu c h t p) {x y : Int} (hx : -2147483648 ≤ x ∧ x ≤ 2147483647) (hy : -2147483648 ≤ y ∧ y ≤ 2147483647) (hf : fshF mu c x y = 0) : Ct G l yX8_setShare wsX8_setShare 6 0 0 [.ref a, .int (I32 x), .int (I32 y)] S n mu la (Dt (some (.int (I32 (gL (lay (pshM mu c h) (c + 2)) 3 (gL (lay (pshM mu c h) (c + 2)) 0 x))))) S n (stlM (putL (pshM mu c h) (c + 2) (sL (lay (pshM mu c h) (c + 2)) 3 (gL (lay (pshM mu c h) (c + 2)) 0 x) y)) p c) la) := by
  have o8 := hD.1
  have o7 := hD.2.1.1
  have o3 := hD.2.2.1.1
  have o5 := hD.2.2.2.2.1.1
  have o4 := hD.2.1.2.2.1.1
  have dj := hD.2.2.2.2.2.2.2
  have hn := hW.2.2.2.1
  have hz9 := hW.2.2.2.2.1
  have hR1 := R32_pshM (c := c) hW.1 hn hz9
  have l1 : lay (pshM mu c h) (c + 2) = lay mu (c + 2) := lay_psh hn (by omega)
  have hB1 : Bd 16000000 (lay (pshM mu c h) (c + 2)) := by rw [l1]; exact hW.2.1
  have f0 := fshF_0 hf hW.2.2.1.2
  have hB3 := sL_bd hB1 3 (gL (lay (pshM mu c h) (c + 2)) 0 x) (v := y) (by omega) (by omega)
  refine Ct.ofV (cc := cX8_setShare) (nL := 5) (ret := (some .int)) [some (.ref a), some (.int (I32 x)), some (.int (I32 y)), none, none] hG (by decide) rfl (Nat.le_of_ble_eq_true rfl) rfl ?_
  rintro X rfl rfl C hcl hsl E
  refine V_aload_n C dX8_setShare_0 rfl ?_
  refine V_iload_n C dX8_setShare_1 rfl ?_
  refine V_iload_n C dX8_setShare_2 rfl ?_
  refine V_callVD (nA := 2) C dX8_setShare_3 (k_faultOfShare C.gp hD hW hx hy) gX8_setShare_X8_faultOfShare rfl o8 rfl (by decide +kernel) rfl (by decide) (by decide) (Nat.le_of_ble_eq_true rfl) ⟨by omega, by omega⟩ rfl ?_
  rw [hf]
  refine V_callSD (nA := 1) C dX8_setShare_6 (c_throwIf0 C.gp) gX8_setShare_X8_throwIf rfl (by decide +kernel) rfl (by decide) (by decide) (Nat.le_of_ble_eq_true rfl) ⟨by omega, by omega⟩ rfl ?_
  refine V_aload_n C dX8_setShare_9 rfl ?_
  refine V_getR C 1 dX8_setShare_10 o8 rfl hin_X8_setShare_X8 (by decide) lk_X8_setShare_19 rfl rfl ?_
  refine V_aload_n C dX8_setShare_13 rfl ?_
  refine V_getR C 0 dX8_setShare_14 o8 rfl hin_X8_setShare_X8 (by decide) lk_X8_setShare_12 rfl rfl ?_
  refine V_callVD (nA := 1) C dX8_setShare_17 (c_push C.gp hD.2.2.1 hD.2.1 (by omega) hW.1 hn hz9) gX8_setShare_X3_push rfl o3 rfl (by decide +kernel) rfl (by decide) (by decide) (Nat.le_of_ble_eq_true rfl) ⟨by omega, by omega⟩ rfl ?_
  refine V_aload_n C dX8_setShare_20 rfl ?_
  refine V_getR C 0 dX8_setShare_21 o8 rfl hin_X8_setShare_X8 (by decide) lk_X8_setShare_12 rfl rfl ?_
  refine V_getNR C 4 (host := "DockTree") dX8_setShare_24 o7 rfl hin_X8_setShare_X7 (by decide) (by decide +kernel) rfl rfl ?_
  refine V_iload_n C dX8_setShare_27 rfl ?_
  refine V_callVD (nA := 1) C dX8_setShare_28 (w_holderOf C.gp hD.2.1.2.2.1) gX8_setShare_X4_holderOf rfl o4 rfl (by decide +kernel) rfl (by decide) (by decide) (Nat.le_of_ble_eq_true rfl) ⟨by omega, by omega⟩ rfl ?_
  refine V_istore_n C dX8_setShare_31 rfl (by decide) ?_
  refine V_aload_n C dX8_setShare_32 rfl ?_
  refine V_getR C 0 dX8_setShare_33 o8 rfl hin_X8_setShare_X8 (by decide) lk_X8_setShare_12 rfl rfl ?_
  refine V_getNR C 4 (host := "DockTree") dX8_setShare_36 o7 rfl hin_X8_setShare_X7 (by decide) (by decide +kernel) rfl rfl ?_
  refine V_iload_n C dX8_setShare_39 rfl ?_
  refine V_callVD (nA := 1) C dX8_setShare_40 (w_weightOf C.gp hD.2.1.2.2.1) gX8_setShare_X4_weightOf rfl o4 rfl (by decide +kernel) rfl (by decide) (by decide) (Nat.le_of_ble_eq_true rfl) ⟨by omega, by omega⟩ rfl ?_
  refine V_istore C dX8_setShare_43 rfl (by decide) ?_
  refine V_aload_n C dX8_setShare_45 rfl ?_
  refine V_getR C 0 dX8_setShare_46 o8 rfl hin_X8_setShare_X8 (by decide) lk_X8_setShare_12 rfl rfl ?_
  refine V_getNR C 4 (host := "DockTree") dX8_setShare_49 o7 rfl hin_X8_setShare_X7 (by decide) (by decide +kernel) rfl rfl ?_
  refine V_iload_n C dX8_setShare_52 rfl ?_
  refine V_iload_n C dX8_setShare_53 rfl ?_
  refine V_callVD (nA := 2) C dX8_setShare_54 (ws_changeWeight C.gp hD.2.1.2.2.1) gX8_setShare_X4_changeWeight rfl o4 rfl (by decide +kernel) rfl (by decide) (by decide) (Nat.le_of_ble_eq_true rfl) ⟨by omega, by omega⟩ rfl ?_
  refine V_aload_n C dX8_setShare_57 rfl ?_
  refine V_callVD (nA := 0) C dX8_setShare_58 (k_settle C.gp hD (R32_putL hR1 (hB3.r32 (by omega))) (lay_putL_bd (by omega) hB3) (by omega)) gX8_setShare_X8_settle rfl o8 rfl (by decide +kernel) rfl (by decide) (by decide) (Nat.le_of_ble_eq_true rfl) ⟨by omega, by omega⟩ rfl ?_
  refine V_iload C dX8_setShare_61 rfl ?_
  refine V_ireturn C E dX8_setShare_63 (by omega) (by omega) ?_
  exact Dt_rfl
-- X8_setShare
theorem x_setShare (hG : GP G) (hGX : GX G) (hl9 : l.stackTraces = false) (hD : DoS S a c h t p b q) (hW : Wo mu c h t p) {x y : Int} (hx : -2147483648 ≤ x ∧ x ≤ 2147483647) (hy : -2147483648 ≤ y ∧ y ≤ 2147483647) (hf : fshF mu c x y = 1 ∨ fshF mu c x y = 2 ∨ fshF mu c x y = 3) : CtX G l yX8_setShare wsX8_setShare 7 [.ref a, .int (I32 x), .int (I32 y)] S n mu la (exn (fshF mu c x y)) := by
  have o8 := hD.1
  have o7 := hD.2.1.1
  refine CtX.ofV (cc := cX8_setShare) (nL := 5) (ret := (some .int)) [some (.ref a), some (.int (I32 x)), some (.int (I32 y)), none, none] hG (by decide) rfl (Nat.le_of_ble_eq_true rfl) rfl ?_
  rintro X rfl rfl C hcl hsl hnt E
  refine V_aload_n C dX8_setShare_0 rfl ?_
  refine V_iload_n C dX8_setShare_1 rfl ?_
  refine V_iload_n C dX8_setShare_2 rfl ?_
  refine V_callVD (nA := 2) C dX8_setShare_3 (k_faultOfShare C.gp hD hW hx hy) gX8_setShare_X8_faultOfShare rfl o8 rfl (by decide +kernel) rfl (by decide) (by decide) (Nat.le_of_ble_eq_true rfl) ⟨by omega, by omega⟩ rfl ?_
  exact V_callSX (nA := 1) C hcl hsl hnt E dX8_setShare_6 (c_throwIfX C.gp hGX hl9 hf) gX8_setShare_X8_throwIf rfl (by decide +kernel) rfl (by omega) (by decide) (Nat.le_of_ble_eq_true rfl) rfl
end D4
