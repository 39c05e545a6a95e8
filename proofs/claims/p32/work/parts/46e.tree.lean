/-! THE TREE'S CONSTRUCTOR -/
def ksX8 : List Sk := [kN, kN, kN, kN, kN, kN]
section IQ
variable {G : Gx} {l : Launch} {S : Sh} {mu : Mem} {la : Lam} {h : Nat}
set_option maxRecDepth 20000 in
theorem ggX8_init_X7_init : GoodIn wsX8_init wsX7_init := goodIn_r _ [27, 28, 2, 3, 29, 30, 31, 32, 33, 21, 22, 34, 35, 36, 37, 38, 39, 40, 41, 42, 43, 44, 45, 46, 47, 48, 49, 50, 51, 52, 89, 90, 91, 92, 93, 94, 95, 124, 125, 126, 127, 128, 129, 130, 131] (by decide +kernel) (by decide +kernel)
set_option maxRecDepth 20000 in
theorem gX8_init_X7_init : GoodIn wsX8_init (wsX7_init) := ggX8_init_X7_init
set_option maxRecDepth 20000 in
theorem ggX8_init_X3_init : GoodIn wsX8_init wsX3_init := goodIn_r _ [55, 56, 2, 3, 57, 58, 5, 6, 59, 26, 27, 28, 29, 30, 31, 32, 33, 21, 22, 34, 35, 36, 37, 38, 39, 40, 41, 42, 43, 44, 45, 46, 47, 48, 49, 50, 51, 52, 102, 103, 104, 89, 90, 91, 92, 93, 94, 95, 124, 125, 126, 127, 128, 129, 130, 131] (by decide +kernel) (by decide +kernel)
set_option maxRecDepth 20000 in
theorem gX8_init_X3_init : GoodIn wsX8_init (wsX3_init) := ggX8_init_X3_init
set_option maxRecDepth 20000 in
theorem ggX8_init_X2_init : GoodIn wsX8_init wsX2_init := goodIn_r _ [61, 62, 2, 3, 31, 63, 64, 65, 105, 106, 107, 108, 109, 110] (by decide +kernel) (by decide +kernel)
set_option maxRecDepth 20000 in
theorem gX8_init_X2_init_n25 : GoodIn wsX8_init (wsX2_init) := ggX8_init_X2_init
set_option maxRecDepth 20000 in
theorem ggX8_init_X5_init : GoodIn wsX8_init wsX5_init := goodIn_r _ [67, 68, 2, 3, 31, 69, 70, 71, 72, 73, 74, 75, 76, 77, 78, 79, 80, 81, 82, 83, 84, 85, 86, 87, 111, 112, 113, 114, 115, 116, 117, 118, 119, 120, 121, 122, 123, 132, 133, 134, 135, 136, 137] (by decide +kernel) (by decide +kernel)
set_option maxRecDepth 20000 in
theorem gX8_init_X5_init_n32 : GoodIn wsX8_init (wsX5_init) := ggX8_init_X5_init
set_option maxRecDepth 20000 in
theorem ggX8_init_X4_init : GoodIn wsX8_init wsX4_init := goodIn_r _ [39, 40, 2, 3, 31, 41, 42, 43, 44, 45, 46, 47, 48, 49, 50, 51, 52, 124, 125, 126, 127, 128, 129, 130, 131] (by decide +kernel) (by decide +kernel)
set_option maxRecDepth 20000 in
theorem gX8_init_X4_init : GoodIn wsX8_init (wsX4_init) := ggX8_init_X4_init
theorem dX8_init_0 : decode cX8_init 0 = .ok (.aload_n 0, 1) := by decide +kernel
theorem dX8_init_1 : decode cX8_init 1 = .ok (.invokespecial 3, 3) := by decide +kernel
theorem dX8_init_4 : decode cX8_init 4 = .ok (.aload_n 0, 1) := by decide +kernel
theorem dX8_init_5 : decode cX8_init 5 = .ok (.new 9, 3) := by decide +kernel
theorem dX8_init_8 : decode cX8_init 8 = .ok (.dup, 1) := by decide +kernel
theorem dX8_init_9 : decode cX8_init 9 = .ok (.invokespecial 11, 3) := by decide +kernel
theorem dX8_init_12 : decode cX8_init 12 = .ok (.putfield 12, 3) := by decide +kernel
theorem dX8_init_15 : decode cX8_init 15 = .ok (.aload_n 0, 1) := by decide +kernel
theorem dX8_init_16 : decode cX8_init 16 = .ok (.new 16, 3) := by decide +kernel
theorem dX8_init_19 : decode cX8_init 19 = .ok (.dup, 1) := by decide +kernel
theorem dX8_init_20 : decode cX8_init 20 = .ok (.invokespecial 18, 3) := by decide +kernel
theorem dX8_init_23 : decode cX8_init 23 = .ok (.putfield 19, 3) := by decide +kernel
theorem dX8_init_26 : decode cX8_init 26 = .ok (.aload_n 0, 1) := by decide +kernel
theorem dX8_init_27 : decode cX8_init 27 = .ok (.new 23, 3) := by decide +kernel
theorem dX8_init_30 : decode cX8_init 30 = .ok (.dup, 1) := by decide +kernel
theorem dX8_init_31 : decode cX8_init 31 = .ok (.invokespecial 25, 3) := by decide +kernel
theorem dX8_init_34 : decode cX8_init 34 = .ok (.putfield 26, 3) := by decide +kernel
theorem dX8_init_37 : decode cX8_init 37 = .ok (.aload_n 0, 1) := by decide +kernel
theorem dX8_init_38 : decode cX8_init 38 = .ok (.new 30, 3) := by decide +kernel
theorem dX8_init_41 : decode cX8_init 41 = .ok (.dup, 1) := by decide +kernel
theorem dX8_init_42 : decode cX8_init 42 = .ok (.invokespecial 32, 3) := by decide +kernel
theorem dX8_init_45 : decode cX8_init 45 = .ok (.putfield 33, 3) := by decide +kernel
theorem dX8_init_48 : decode cX8_init 48 = .ok (.aload_n 0, 1) := by decide +kernel
theorem dX8_init_49 : decode cX8_init 49 = .ok (.new 37, 3) := by decide +kernel
theorem dX8_init_52 : decode cX8_init 52 = .ok (.dup, 1) := by decide +kernel
theorem dX8_init_53 : decode cX8_init 53 = .ok (.invokespecial 39, 3) := by decide +kernel
theorem dX8_init_56 : decode cX8_init 56 = .ok (.putfield 40, 3) := by decide +kernel
theorem dX8_init_59 : decode cX8_init 59 = .ok (.aload_n 0, 1) := by decide +kernel
theorem dX8_init_60 : decode cX8_init 60 = .ok (.new 30, 3) := by decide +kernel
theorem dX8_init_63 : decode cX8_init 63 = .ok (.dup, 1) := by decide +kernel
theorem dX8_init_64 : decode cX8_init 64 = .ok (.invokespecial 32, 3) := by decide +kernel
theorem dX8_init_67 : decode cX8_init 67 = .ok (.putfield 44, 3) := by decide +kernel
theorem dX8_init_70 : decode cX8_init 70 = .ok (.return_, 1) := by decide +kernel
theorem oi1_X8_init : Cond.methodLink RX8 3 objectInit ∈ wsX8_init := by decide +kernel
theorem oi2_X8_init : Cond.instanceMethod objectInit ∈ wsX8_init := by decide +kernel
theorem oi3_X8_init : Cond.code objectInit ⟨#[0xb1]⟩ 1 none ∈ wsX8_init := by decide +kernel
theorem nc_X8_init_5 : Cond.classLink RX8 9 RX7 ∈ wsX8_init := by decide +kernel
theorem nd_X8_init_5 : Cond.instantiable RX7 7 ∈ wsX8_init := by decide +kernel
theorem ne_X8_init_5 : Cond.initialized RX7 ∈ wsX8_init := by decide +kernel
theorem hin9_X8_init_5 : ∀ w ∈ wsX70, w ∈ wsX8_init := by decide +kernel
theorem nc_X8_init_16 : Cond.classLink RX8 16 RX3 ∈ wsX8_init := by decide +kernel
theorem nd_X8_init_16 : Cond.instantiable RX3 3 ∈ wsX8_init := by decide +kernel
theorem ne_X8_init_16 : Cond.initialized RX3 ∈ wsX8_init := by decide +kernel
theorem hin9_X8_init_16 : ∀ w ∈ wsX30, w ∈ wsX8_init := by decide +kernel
theorem nc_X8_init_27 : Cond.classLink RX8 23 RX2 ∈ wsX8_init := by decide +kernel
theorem nd_X8_init_27 : Cond.instantiable RX2 6 ∈ wsX8_init := by decide +kernel
theorem ne_X8_init_27 : Cond.initialized RX2 ∈ wsX8_init := by decide +kernel
theorem hin9_X8_init_27 : ∀ w ∈ wsX20, w ∈ wsX8_init := by decide +kernel
theorem nc_X8_init_38 : Cond.classLink RX8 30 RX5 ∈ wsX8_init := by decide +kernel
theorem nd_X8_init_38 : Cond.instantiable RX5 13 ∈ wsX8_init := by decide +kernel
theorem ne_X8_init_38 : Cond.initialized RX5 ∈ wsX8_init := by decide +kernel
theorem hin9_X8_init_38 : ∀ w ∈ wsX50, w ∈ wsX8_init := by decide +kernel
theorem nc_X8_init_49 : Cond.classLink RX8 37 RX4 ∈ wsX8_init := by decide +kernel
theorem nd_X8_init_49 : Cond.instantiable RX4 8 ∈ wsX8_init := by decide +kernel
theorem ne_X8_init_49 : Cond.initialized RX4 ∈ wsX8_init := by decide +kernel
theorem hin9_X8_init_49 : ∀ w ∈ wsX40, w ∈ wsX8_init := by decide +kernel
theorem nc_X8_init_60 : Cond.classLink RX8 30 RX5 ∈ wsX8_init := by decide +kernel
theorem nd_X8_init_60 : Cond.instantiable RX5 13 ∈ wsX8_init := by decide +kernel
theorem ne_X8_init_60 : Cond.initialized RX5 ∈ wsX8_init := by decide +kernel
theorem hin9_X8_init_60 : ∀ w ∈ wsX50, w ∈ wsX8_init := by decide +kernel
theorem hin_X8_init_X8 : ∀ w ∈ wsX80, w ∈ wsX8_init := by decide +kernel
theorem lk_X8_init_12 : Cond.fieldLink RX8 12 RX8 "now" "LDockTree$State;" ∈ wsX8_init := by decide +kernel
theorem lk_X8_init_19 : Cond.fieldLink RX8 19 RX8 "history" "LDockTree$History;" ∈ wsX8_init := by decide +kernel
theorem lk_X8_init_26 : Cond.fieldLink RX8 26 RX8 "text" "LDockTree$CommandText;" ∈ wsX8_init := by decide +kernel
theorem lk_X8_init_33 : Cond.fieldLink RX8 33 RX8 "plan" "LDockTree$Plan;" ∈ wsX8_init := by decide +kernel
theorem lk_X8_init_40 : Cond.fieldLink RX8 40 RX8 "trial" "LDockTree$Layout;" ∈ wsX8_init := by decide +kernel
theorem lk_X8_init_44 : Cond.fieldLink RX8 44 RX8 "trialPlan" "LDockTree$Plan;" ∈ wsX8_init := by decide +kernel
theorem i_X8 (hG : GP G) (hA : GAO G) (hx : hasS S h (.inr (.inr (6, ksX8)))) : Ct G l yX8_init wsX8_init 4 287 10333 [.ref h] S (h + 1) mu la (Nw h (h + 1) 287 S mu la (fun S' mu' _ => DoS S' h (h + 1) (h + 50) (h + 248) (h + 251) (h + 265) (h + 274) ∧ SI mu' (h + 1) ∧ (∀ i, mu' (h + 50) i = 0) ∧ (∀ k, k < 4 → SI mu' (h + 52 + 49 * k)) ∧ (∀ i, mu' (h + 249) i = 0) ∧ (∀ i, mu' (h + 250) i = 0) ∧ (∀ i, mu' (h + 248) i = if i = 4 then -1 else 0) ∧ (∀ k, k ≤ 13 → ∀ i, mu' (h + 251 + k) i = 0) ∧ LI mu' (h + 265) ∧ ∀ k, k ≤ 13 → ∀ i, mu' (h + 274 + k) i = 0)) := by
  refine Ct.ofI (cc := cX8_init) (nL := 1) (ret := none) [some (.ref h)] hG (by decide) rfl (Nat.le_of_ble_eq_true rfl) rfl ?_
  rintro X rfl rfl C hnm0 hcl hsl E
  refine V_aload_n C dX8_init_0 rfl ?_
  refine V_objInit C dX8_init_1 oi1_X8_init oi2_X8_init oi3_X8_init (by decide) (by decide) ?_
  refine V_aload_n C dX8_init_4 rfl ?_
  refine V_newo C (ci := 5) (ks := ksX7) dX8_init_5 rfl hin9_X8_init_5 tyX7 tyX7_ok nc_X8_init_5 nd_X8_init_5 ne_X8_init_5 rfl ⟨by omega, by omega⟩ ?_
  refine V_dup C dX8_init_8 rfl ?_
  refine V_callI (nA := 0) C dX8_init_9 (i_X7 C.gp hA (hasS_new _ _ _)) gX8_init_X7_init (by decide +kernel) (by decide +kernel) (by decide +kernel) rfl rfl (by decide +kernel) rfl (by decide) (by decide) (Nat.le_of_ble_eq_true rfl) ⟨by omega, by omega⟩ rfl ?_
  rintro o S1 n9 mu1 la1 ⟨rfl, rfl, e1, m1, q1, u1, u2, u3, u4, u5⟩
  have c1 := (e1 _ _ (by omega) (by omega) (hasS_grow hx (by omega)))
  have g1 : ∀ b x, b < h + 1 → b ≠ h → hasS S b x → hasS S1 b x := fun b x h1 h2 h3 => e1 _ _ (by omega) (by omega) (hasS_grow h3 (by omega))
  have r1 : ∀ b, b < h + 1 → ∀ i, mu1 b i = mu b i := fun b h1 i => ((m1 b (by omega) (by omega)).1 i).trans (zm_a _ _ (by omega))
  have s1 : ∀ b, b < h + 1 → ∀ i, la1 b i = la b i := fun b h1 i => ((m1 b (by omega) (by omega)).2 i).trans (zl_a _ _ (by omega))
  refine V_putO C hnm0 0 dX8_init_12 (by repeat (first | with_reducible exact c1 | with_reducible exact c10 | exact c1.1 | with_reducible exact hasS_new _ _ _ | with_reducible refine hasS_reM ?_ | with_reducible refine memG ?_ | with_reducible refine memR ?_ | with_reducible refine hasS_grow ?_ (by omega) | with_reducible refine hasS_re ?_ (by omega) | exact hasS_new _ _ _ | refine hasS_reM ?_)) rfl hin_X8_init_X8 tyX8 tyX8_ok nmX8 (by decide) lk_X8_init_12 rfl rfl (tyX8_ok 0 (by decide)) rfl rfl (Nat.le_of_ble_eq_true rfl) ?_
  refine V_aload_n C dX8_init_15 rfl ?_
  refine V_newo C (ci := 1) (ks := ksX3) dX8_init_16 rfl hin9_X8_init_16 tyX3 tyX3_ok nc_X8_init_16 nd_X8_init_16 ne_X8_init_16 rfl ⟨by omega, by omega⟩ ?_
  refine V_dup C dX8_init_19 rfl ?_
  refine V_callI (nA := 0) C dX8_init_20 (i_X3 C.gp hA (hasS_new _ _ _)) gX8_init_X3_init (by decide +kernel) (by decide +kernel) (by decide +kernel) rfl rfl (by decide +kernel) rfl (by decide) (by decide) (Nat.le_of_ble_eq_true rfl) ⟨by omega, by omega⟩ rfl ?_
  rintro o S2 n9 mu2 la2 ⟨rfl, rfl, e2, m2, q2, v1, v2⟩
  have c2 : hasS S2 h _ := (e2 _ _ (by omega) (by omega) (hasS_grow (hasS_reS c1) (by omega)))
  have g2 : ∀ b x, b < h + 50 → b ≠ h → hasS S1 b x → hasS S2 b x := fun b x h1 h2 h3 => e2 _ _ (by omega) (by omega) (hasS_grow (hasS_re h3 h2) (by omega))
  have r2 : ∀ b, b < h + 50 → ∀ i, mu2 b i = mu1 b i := fun b h1 i => ((m2 b (by omega) (by omega)).1 i).trans (zm_a _ _ (by omega))
  have s2 : ∀ b, b < h + 50 → ∀ i, la2 b i = la1 b i := fun b h1 i => ((m2 b (by omega) (by omega)).2 i).trans (zl_a _ _ (by omega))
  refine V_putO C hnm0 1 dX8_init_23 (by repeat (first | with_reducible exact c2 | with_reducible exact c20 | exact c2.1 | with_reducible exact hasS_new _ _ _ | with_reducible refine hasS_reM ?_ | with_reducible refine memG ?_ | with_reducible refine memR ?_ | with_reducible refine hasS_grow ?_ (by omega) | with_reducible refine hasS_re ?_ (by omega) | exact hasS_new _ _ _ | refine hasS_reM ?_)) rfl hin_X8_init_X8 tyX8 tyX8_ok nmX8 (by decide) lk_X8_init_19 rfl rfl (tyX8_ok 1 (by decide)) rfl rfl (Nat.le_of_ble_eq_true rfl) ?_
  refine V_aload_n C dX8_init_26 rfl ?_
  refine V_newo C (ci := 0) (ks := ksX2) dX8_init_27 rfl hin9_X8_init_27 tyX2 tyX2_ok nc_X8_init_27 nd_X8_init_27 ne_X8_init_27 rfl ⟨by omega, by omega⟩ ?_
  refine V_dup C dX8_init_30 rfl ?_
  refine V_callIN (nA := 0) (host := "DockTree") C dX8_init_31 (i_X2 C.gp (hasS_new _ _ _)) gX8_init_X2_init_n25 (by decide +kernel) (by decide +kernel) (by decide +kernel) rfl rfl (by decide +kernel) rfl (by decide) (by decide) (Nat.le_of_ble_eq_true rfl) ⟨by omega, by omega⟩ rfl ?_
  rintro o S3 n9 mu3 la3 ⟨rfl, rfl, e3, m3, q3, w1, w2, w3⟩
  have c3 : hasS S3 h _ := (e3 _ _ (by omega) (by omega) (hasS_grow (hasS_reS c2) (by omega)))
  have g3 : ∀ b x, b < h + 248 → b ≠ h → hasS S2 b x → hasS S3 b x := fun b x h1 h2 h3 => e3 _ _ (by omega) (by omega) (hasS_grow (hasS_re h3 h2) (by omega))
  have r3 : ∀ b, b < h + 248 → ∀ i, mu3 b i = mu2 b i := fun b h1 i => ((m3 b (by omega) (by omega)).1 i).trans (zm_a _ _ (by omega))
  have s3 : ∀ b, b < h + 248 → ∀ i, la3 b i = la2 b i := fun b h1 i => ((m3 b (by omega) (by omega)).2 i).trans (zl_a _ _ (by omega))
  refine V_putO C hnm0 2 dX8_init_34 (by repeat (first | with_reducible exact c3 | with_reducible exact c30 | exact c3.1 | with_reducible exact hasS_new _ _ _ | with_reducible refine hasS_reM ?_ | with_reducible refine memG ?_ | with_reducible refine memR ?_ | with_reducible refine hasS_grow ?_ (by omega) | with_reducible refine hasS_re ?_ (by omega) | exact hasS_new _ _ _ | refine hasS_reM ?_)) rfl hin_X8_init_X8 tyX8 tyX8_ok nmX8 (by decide) lk_X8_init_26 rfl rfl (tyX8_ok 2 (by decide)) rfl rfl (Nat.le_of_ble_eq_true rfl) ?_
  refine V_aload_n C dX8_init_37 rfl ?_
  refine V_newo C (ci := 3) (ks := ksX5) dX8_init_38 rfl hin9_X8_init_38 tyX5 tyX5_ok nc_X8_init_38 nd_X8_init_38 ne_X8_init_38 rfl ⟨by omega, by omega⟩ ?_
  refine V_dup C dX8_init_41 rfl ?_
  refine V_callIN (nA := 0) (host := "DockTree") C dX8_init_42 (i_X5 C.gp (hasS_new _ _ _)) gX8_init_X5_init_n32 (by decide +kernel) (by decide +kernel) (by decide +kernel) rfl rfl (by decide +kernel) rfl (by decide) (by decide) (Nat.le_of_ble_eq_true rfl) ⟨by omega, by omega⟩ rfl ?_
  rintro o S4 n9 mu4 la4 ⟨rfl, rfl, e4, m4, q4, x1, x2⟩
  have c4 : hasS S4 h _ := (e4 _ _ (by omega) (by omega) (hasS_grow (hasS_reS c3) (by omega)))
  have g4 : ∀ b x, b < h + 251 → b ≠ h → hasS S3 b x → hasS S4 b x := fun b x h1 h2 h3 => e4 _ _ (by omega) (by omega) (hasS_grow (hasS_re h3 h2) (by omega))
  have r4 : ∀ b, b < h + 251 → ∀ i, mu4 b i = mu3 b i := fun b h1 i => ((m4 b (by omega) (by omega)).1 i).trans (zm_a _ _ (by omega))
  have s4 : ∀ b, b < h + 251 → ∀ i, la4 b i = la3 b i := fun b h1 i => ((m4 b (by omega) (by omega)).2 i).trans (zl_a _ _ (by omega))
  refine V_putO C hnm0 3 dX8_init_45 (by repeat (first | with_reducible exact c4 | with_reducible exact c40 | exact c4.1 | with_reducible exact hasS_new _ _ _ | with_reducible refine hasS_reM ?_ | with_reducible refine memG ?_ | with_reducible refine memR ?_ | with_reducible refine hasS_grow ?_ (by omega) | with_reducible refine hasS_re ?_ (by omega) | exact hasS_new _ _ _ | refine hasS_reM ?_)) rfl hin_X8_init_X8 tyX8 tyX8_ok nmX8 (by decide) lk_X8_init_33 rfl rfl (tyX8_ok 3 (by decide)) rfl rfl (Nat.le_of_ble_eq_true rfl) ?_
  refine V_aload_n C dX8_init_48 rfl ?_
  refine V_newo C (ci := 2) (ks := ksX4) dX8_init_49 rfl hin9_X8_init_49 tyX4 tyX4_ok nc_X8_init_49 nd_X8_init_49 ne_X8_init_49 rfl ⟨by omega, by omega⟩ ?_
  refine V_dup C dX8_init_52 rfl ?_
  refine V_callI (nA := 0) C dX8_init_53 (i_X4 C.gp (hasS_new _ _ _)) gX8_init_X4_init (by decide +kernel) (by decide +kernel) (by decide +kernel) rfl rfl (by decide +kernel) rfl (by decide) (by decide) (Nat.le_of_ble_eq_true rfl) ⟨by omega, by omega⟩ rfl ?_
  rintro o S5 n9 mu5 la5 ⟨rfl, rfl, e5, m5, q5, y1, y2, y3⟩
  have c5 : hasS S5 h _ := (e5 _ _ (by omega) (by omega) (hasS_grow (hasS_reS c4) (by omega)))
  have g5 : ∀ b x, b < h + 265 → b ≠ h → hasS S4 b x → hasS S5 b x := fun b x h1 h2 h3 => e5 _ _ (by omega) (by omega) (hasS_grow (hasS_re h3 h2) (by omega))
  have r5 : ∀ b, b < h + 265 → ∀ i, mu5 b i = mu4 b i := fun b h1 i => ((m5 b (by omega) (by omega)).1 i).trans (zm_a _ _ (by omega))
  have s5 : ∀ b, b < h + 265 → ∀ i, la5 b i = la4 b i := fun b h1 i => ((m5 b (by omega) (by omega)).2 i).trans (zl_a _ _ (by omega))
  refine V_putO C hnm0 4 dX8_init_56 (by repeat (first | with_reducible exact c5 | with_reducible exact c50 | exact c5.1 | with_reducible exact hasS_new _ _ _ | with_reducible refine hasS_reM ?_ | with_reducible refine memG ?_ | with_reducible refine memR ?_ | with_reducible refine hasS_grow ?_ (by omega) | with_reducible refine hasS_re ?_ (by omega) | exact hasS_new _ _ _ | refine hasS_reM ?_)) rfl hin_X8_init_X8 tyX8 tyX8_ok nmX8 (by decide) lk_X8_init_40 rfl rfl (tyX8_ok 4 (by decide)) rfl rfl (Nat.le_of_ble_eq_true rfl) ?_
  refine V_aload_n C dX8_init_59 rfl ?_
  refine V_newo C (ci := 3) (ks := ksX5) dX8_init_60 rfl hin9_X8_init_60 tyX5 tyX5_ok nc_X8_init_60 nd_X8_init_60 ne_X8_init_60 rfl ⟨by omega, by omega⟩ ?_
  refine V_dup C dX8_init_63 rfl ?_
  refine V_callIN (nA := 0) (host := "DockTree") C dX8_init_64 (i_X5 C.gp (hasS_new _ _ _)) gX8_init_X5_init_n32 (by decide +kernel) (by decide +kernel) (by decide +kernel) rfl rfl (by decide +kernel) rfl (by decide) (by decide) (Nat.le_of_ble_eq_true rfl) ⟨by omega, by omega⟩ rfl ?_
  rintro o S6 n9 mu6 la6 ⟨rfl, rfl, e6, m6, q6, z1, z2⟩
  have c6 : hasS S6 h _ := (e6 _ _ (by omega) (by omega) (hasS_grow (hasS_reS c5) (by omega)))
  have g6 : ∀ b x, b < h + 274 → b ≠ h → hasS S5 b x → hasS S6 b x := fun b x h1 h2 h3 => e6 _ _ (by omega) (by omega) (hasS_grow (hasS_re h3 h2) (by omega))
  have r6 : ∀ b, b < h + 274 → ∀ i, mu6 b i = mu5 b i := fun b h1 i => ((m6 b (by omega) (by omega)).1 i).trans (zm_a _ _ (by omega))
  have s6 : ∀ b, b < h + 274 → ∀ i, la6 b i = la5 b i := fun b h1 i => ((m6 b (by omega) (by omega)).2 i).trans (zl_a _ _ (by omega))
  refine V_putO C hnm0 5 dX8_init_67 (by repeat (first | with_reducible exact c6 | with_reducible exact c60 | exact c6.1 | with_reducible exact hasS_new _ _ _ | with_reducible refine hasS_reM ?_ | with_reducible refine memG ?_ | with_reducible refine memR ?_ | with_reducible refine hasS_grow ?_ (by omega) | with_reducible refine hasS_re ?_ (by omega) | exact hasS_new _ _ _ | refine hasS_reM ?_)) rfl hin_X8_init_X8 tyX8 tyX8_ok nmX8 (by decide) lk_X8_init_44 rfl rfl (tyX8_ok 5 (by decide)) rfl rfl (Nat.le_of_ble_eq_true rfl) ?_
  refine V_return C E dX8_init_70 (by omega) (by omega) ?_
  refine ⟨rfl, by omega, fun a x h1 h2 h3 => hasS_re (g6 a x (by omega) (by omega) (g5 a x (by omega) (by omega) (g4 a x (by omega) (by omega) (g3 a x (by omega) (by omega) (g2 a x (by omega) (by omega) (g1 a x (by omega) (by omega) h3)))))) (by omega), fun b h1 h2 => ⟨fun i => ((((((r6 _ (by omega) i).trans (r5 _ (by omega) i)).trans (r4 _ (by omega) i)).trans (r3 _ (by omega) i)).trans (r2 _ (by omega) i)).trans (r1 _ (by omega) i)), fun i => ((((((s6 _ (by omega) i).trans (s5 _ (by omega) i)).trans (s4 _ (by omega) i)).trans (s3 _ (by omega) i)).trans (s2 _ (by omega) i)).trans (s1 _ (by omega) i))⟩, ⟨hasS_reS c6, q1.of fun a x h1 h2 h3 => hasS_re (g6 a x (by omega) (by omega) (g5 a x (by omega) (by omega) (g4 a x (by omega) (by omega) (g3 a x (by omega) (by omega) (g2 a x (by omega) (by omega) h3))))) (by omega), q2.of fun a x h1 h2 h3 => hasS_re (g6 a x (by omega) (by omega) (g5 a x (by omega) (by omega) (g4 a x (by omega) (by omega) (g3 a x (by omega) (by omega) h3)))) (by omega), q3.of fun a x h1 h2 h3 => hasS_re (g6 a x (by omega) (by omega) (g5 a x (by omega) (by omega) (g4 a x (by omega) (by omega) h3))) (by omega), q4.of fun a x h1 h2 h3 => hasS_re (g6 a x (by omega) (by omega) (g5 a x (by omega) (by omega) h3)) (by omega), q5.of fun a x h1 h2 h3 => hasS_re (g6 a x (by omega) (by omega) h3) (by omega), q6.of fun a x h1 h2 h3 => hasS_re h3 (by omega), by omega⟩, ?_, ?_, ?_, ?_, ?_, ?_, ?_, ?_, ?_⟩
  · refine SI.of (mu := mu1) ⟨⟨u1.1, u1.2.1, u1.2.2.trans (zm_s _ _ _)⟩, u2, u3, u4, u5⟩ fun a h1 h2 i => (((((r6 _ (by omega) i).trans (r5 _ (by omega) i)).trans (r4 _ (by omega) i)).trans (r3 _ (by omega) i)).trans (r2 _ (by omega) i))
  · exact fun i => (((((r6 _ (by omega) i).trans (r5 _ (by omega) i)).trans (r4 _ (by omega) i)).trans (r3 _ (by omega) i)).trans (v1 i)).trans (zm_s _ _ _)
  · exact fun k hk => (v2 k hk).of fun a h1 h2 i => ((((r6 _ (by omega) i).trans (r5 _ (by omega) i)).trans (r4 _ (by omega) i)).trans (r3 _ (by omega) i))
  · exact fun i => (((r6 _ (by omega) i).trans (r5 _ (by omega) i)).trans (r4 _ (by omega) i)).trans (w1 i)
  · exact fun i => (((r6 _ (by omega) i).trans (r5 _ (by omega) i)).trans (r4 _ (by omega) i)).trans (w2 i)
  · intro i
    refine ((((r6 _ (by omega) i).trans (r5 _ (by omega) i)).trans (r4 _ (by omega) i)).trans (w3 i)).trans ?_
    rw [zm_s]
  · intro k hk i
    by_cases h0 : k = 0
    · subst h0
      exact (((r6 _ (by omega) i).trans (r5 _ (by omega) i)).trans (x2 i)).trans (zm_s _ _ _)
    · exact ((r6 _ (by omega) i).trans (r5 _ (by omega) i)).trans (x1 k (by omega) hk i)
  · exact LI.of (mu := mu5) ⟨y1, y2⟩ fun a h1 h2 i => (r6 _ (by omega) i)
  · intro k hk i
    by_cases h0 : k = 0
    · subst h0
      exact (z2 i).trans (zm_s _ _ _)
    · exact z1 k (by omega) hk i
end IQ
