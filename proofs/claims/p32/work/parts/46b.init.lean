/-! CONSTRUCTORS -/
abbrev kN : Sk := .inl .null
def ksX2 : List Sk := [kN, kN, .inr 0, .inr 0, .inr 0, .inr 2]
def ksX3 : List Sk := [kN, .inr 0, .inr 0]
def ksX4 : List Sk := [kN, kN, kN, kN, kN, kN, kN, kN]
def ksX5 : List Sk := [kN, kN, kN, kN, kN, kN, kN, kN, kN, .inr 0, .inr 0, .inr 0, .inr 0]
def ksX6 : List Sk := [kN, kN, kN, kN, .inr 0, .inr 0]
def ksX7 : List Sk := [.inr 0, .inr 0, .inr 0, kN, kN, kN, kN]
/-- behind a constructor of h: c cells more, the others as before, P of the new ones -/
def Nw (h n c : Nat) (S : Sh) (mu : Mem) (la : Lam) (P : Sh → Mem → Lam → Prop) : Option Value → Sh → Nat → Mem → Lam → Prop := fun o S' n' mu' la' =>
  o = none ∧ n' = n + c ∧ (∀ b x, b < n → b ≠ h → hasS S b x → hasS S' b x) ∧ (∀ b, b < n → b ≠ h → (∀ i, mu' b i = mu b i) ∧ ∀ i, la' b i = la b i) ∧ P S' mu' la'
section IN
variable {G : Gx} {l : Launch} {S : Sh} {mu : Mem} {la : Lam} {h : Nat}
theorem dX6_init_0 : decode cX6_init 0 = .ok (.aload_n 0, 1) := by decide +kernel
theorem dX6_init_1 : decode cX6_init 1 = .ok (.invokespecial 3, 3) := by decide +kernel
theorem dX6_init_4 : decode cX6_init 4 = .ok (.aload_n 0, 1) := by decide +kernel
theorem dX6_init_5 : decode cX6_init 5 = .ok (.bipush 16, 2) := by decide +kernel
theorem dX6_init_7 : decode cX6_init 7 = .ok (.newarray .int, 2) := by decide +kernel
theorem dX6_init_9 : decode cX6_init 9 = .ok (.putfield 9, 3) := by decide +kernel
theorem dX6_init_12 : decode cX6_init 12 = .ok (.aload_n 0, 1) := by decide +kernel
theorem dX6_init_13 : decode cX6_init 13 = .ok (.bipush 16, 2) := by decide +kernel
theorem dX6_init_15 : decode cX6_init 15 = .ok (.newarray .int, 2) := by decide +kernel
theorem dX6_init_17 : decode cX6_init 17 = .ok (.putfield 15, 3) := by decide +kernel
theorem dX6_init_20 : decode cX6_init 20 = .ok (.aload_n 0, 1) := by decide +kernel
theorem dX6_init_21 : decode cX6_init 21 = .ok (.bipush 16, 2) := by decide +kernel
theorem dX6_init_23 : decode cX6_init 23 = .ok (.newarray .int, 2) := by decide +kernel
theorem dX6_init_25 : decode cX6_init 25 = .ok (.putfield 18, 3) := by decide +kernel
theorem dX6_init_28 : decode cX6_init 28 = .ok (.aload_n 0, 1) := by decide +kernel
theorem dX6_init_29 : decode cX6_init 29 = .ok (.bipush 16, 2) := by decide +kernel
theorem dX6_init_31 : decode cX6_init 31 = .ok (.newarray .int, 2) := by decide +kernel
theorem dX6_init_33 : decode cX6_init 33 = .ok (.putfield 21, 3) := by decide +kernel
theorem dX6_init_36 : decode cX6_init 36 = .ok (.return_, 1) := by decide +kernel
theorem oi1_X6_init : Cond.methodLink RX6 3 objectInit ∈ wsX6_init := by decide +kernel
theorem oi2_X6_init : Cond.instanceMethod objectInit ∈ wsX6_init := by decide +kernel
theorem oi3_X6_init : Cond.code objectInit ⟨#[0xb1]⟩ 1 none ∈ wsX6_init := by decide +kernel
theorem oi4_X6_init : Cond.arrayClass .int ∈ wsX6_init := by decide +kernel
theorem hin_X6_init_X6 : ∀ w ∈ wsX60, w ∈ wsX6_init := by decide +kernel
theorem lk_X6_init_9 : Cond.fieldLink RX6 9 RX6 "least" "[I" ∈ wsX6_init := by decide +kernel
theorem lk_X6_init_15 : Cond.fieldLink RX6 15 RX6 "weight" "[I" ∈ wsX6_init := by decide +kernel
theorem lk_X6_init_18 : Cond.fieldLink RX6 18 RX6 "given" "[I" ∈ wsX6_init := by decide +kernel
theorem lk_X6_init_21 : Cond.fieldLink RX6 21 RX6 "free" "[I" ∈ wsX6_init := by decide +kernel
theorem i_X6 (hG : GP G) (hx : hasS S h (.inr (.inr (4, ksX6)))) : Ct G l yX6_init wsX6_init 1 4 64 [.ref h] S (h + 1) mu la (Nw h (h + 1) 4 S mu la (fun S' mu' _ => hasS S' h (.inr (.inr (4, [.inl (.ref (h + 1)), .inl (.ref (h + 2)), .inl (.ref (h + 3)), .inl (.ref (h + 4)), .inr 0, .inr 0]))) ∧ (∀ k, 1 ≤ k → k ≤ 4 → hasS S' (h + k) (.inl (0, 16)) ∧ ∀ i, mu' (h + k) i = 0) ∧ ∀ i, mu' h i = mu h i)) := by
  refine Ct.ofI (cc := cX6_init) (nL := 1) (ret := none) [some (.ref h)] hG (by decide) rfl (Nat.le_of_ble_eq_true rfl) rfl ?_
  rintro X rfl rfl C hnm0 hcl hsl E
  refine V_aload_n C dX6_init_0 rfl ?_
  refine V_objInit C dX6_init_1 oi1_X6_init oi2_X6_init oi3_X6_init (by decide) (by decide) ?_
  refine V_aload_n C dX6_init_4 rfl ?_
  refine V_bipush C dX6_init_5 (by decide +kernel) ?_
  refine V_newa C 16 dX6_init_7 oi4_X6_init rfl (by decide) ⟨by omega, by omega⟩ ?_
  refine V_putO C hnm0 0 dX6_init_9 (by repeat (first | with_reducible exact hx | with_reducible exact hx0 | exact hx.1 | with_reducible exact hasS_new _ _ _ | with_reducible refine hasS_reM ?_ | with_reducible refine memG ?_ | with_reducible refine memR ?_ | with_reducible refine hasS_grow ?_ (by omega) | with_reducible refine hasS_re ?_ (by omega) | exact hasS_new _ _ _ | refine hasS_reM ?_)) rfl hin_X6_init_X6 tyX6 tyX6_ok nmX6 (by decide) lk_X6_init_9 rfl rfl (tyX6_ok 0 (by decide)) rfl rfl (Nat.le_of_ble_eq_true rfl) ?_
  refine V_aload_n C dX6_init_12 rfl ?_
  refine V_bipush C dX6_init_13 (by decide +kernel) ?_
  refine V_newa C 16 dX6_init_15 oi4_X6_init rfl (by decide) ⟨by omega, by omega⟩ ?_
  refine V_putO C hnm0 1 dX6_init_17 (by repeat (first | with_reducible exact hx | with_reducible exact hx0 | exact hx.1 | with_reducible exact hasS_new _ _ _ | with_reducible refine hasS_reM ?_ | with_reducible refine memG ?_ | with_reducible refine memR ?_ | with_reducible refine hasS_grow ?_ (by omega) | with_reducible refine hasS_re ?_ (by omega) | exact hasS_new _ _ _ | refine hasS_reM ?_)) rfl hin_X6_init_X6 tyX6 tyX6_ok nmX6 (by decide) lk_X6_init_15 rfl rfl (tyX6_ok 1 (by decide)) rfl rfl (Nat.le_of_ble_eq_true rfl) ?_
  refine V_aload_n C dX6_init_20 rfl ?_
  refine V_bipush C dX6_init_21 (by decide +kernel) ?_
  refine V_newa C 16 dX6_init_23 oi4_X6_init rfl (by decide) ⟨by omega, by omega⟩ ?_
  refine V_putO C hnm0 2 dX6_init_25 (by repeat (first | with_reducible exact hx | with_reducible exact hx0 | exact hx.1 | with_reducible exact hasS_new _ _ _ | with_reducible refine hasS_reM ?_ | with_reducible refine memG ?_ | with_reducible refine memR ?_ | with_reducible refine hasS_grow ?_ (by omega) | with_reducible refine hasS_re ?_ (by omega) | exact hasS_new _ _ _ | refine hasS_reM ?_)) rfl hin_X6_init_X6 tyX6 tyX6_ok nmX6 (by decide) lk_X6_init_18 rfl rfl (tyX6_ok 2 (by decide)) rfl rfl (Nat.le_of_ble_eq_true rfl) ?_
  refine V_aload_n C dX6_init_28 rfl ?_
  refine V_bipush C dX6_init_29 (by decide +kernel) ?_
  refine V_newa C 16 dX6_init_31 oi4_X6_init rfl (by decide) ⟨by omega, by omega⟩ ?_
  refine V_putO C hnm0 3 dX6_init_33 (by repeat (first | with_reducible exact hx | with_reducible exact hx0 | exact hx.1 | with_reducible exact hasS_new _ _ _ | with_reducible refine hasS_reM ?_ | with_reducible refine memG ?_ | with_reducible refine memR ?_ | with_reducible refine hasS_grow ?_ (by omega) | with_reducible refine hasS_re ?_ (by omega) | exact hasS_new _ _ _ | refine hasS_reM ?_)) rfl hin_X6_init_X6 tyX6 tyX6_ok nmX6 (by decide) lk_X6_init_21 rfl rfl (tyX6_ok 3 (by decide)) rfl rfl (Nat.le_of_ble_eq_true rfl) ?_
  refine V_return C E dX6_init_36 (by omega) (by omega) ?_
  refine ⟨rfl, rfl, ?_, ?_, ?_, ?_, ?_⟩
  · intro b x hb hne hxb
    repeat (first | exact hxb | refine hasS_re ?_ (by omega) | refine hasS_grow ?_ (by omega))
  · intro b hb hne
    constructor <;> intro i <;> (repeat (first | rfl | rw [zm_a _ _ (by omega)] | rw [zl_a _ _ (by omega)] | rw [up_a _ _ _ _ (by omega)]))
  · exact (by repeat (first | exact hx | exact hx.1 | exact hasS_new _ _ _ | refine hasS_reM ?_ | with_reducible refine memG ?_ | with_reducible refine memR ?_ | refine hasS_grow ?_ (by omega) | refine hasS_re ?_ (by omega)))
  · intro k k1 k2
    rcases (show k = 1 ∨ k = 2 ∨ k = 3 ∨ k = 4 by omega) with rfl | rfl | rfl | rfl <;> exact ⟨(by repeat (first | exact hx | exact hx.1 | exact hasS_new _ _ _ | refine hasS_reM ?_ | with_reducible refine memG ?_ | with_reducible refine memR ?_ | refine hasS_grow ?_ (by omega) | refine hasS_re ?_ (by omega))), fun i => by (repeat (first | rfl | rw [zm_s] | rw [zm_a _ _ (by omega)]))⟩
  · intro i
    (repeat (first | rfl | rw [zm_s] | rw [zm_a _ _ (by omega)]))
theorem dX2_init_0 : decode cX2_init 0 = .ok (.aload_n 0, 1) := by decide +kernel
theorem dX2_init_1 : decode cX2_init 1 = .ok (.invokespecial 3, 3) := by decide +kernel
theorem dX2_init_4 : decode cX2_init 4 = .ok (.aload_n 0, 1) := by decide +kernel
theorem dX2_init_5 : decode cX2_init 5 = .ok (.sipush 150, 3) := by decide +kernel
theorem dX2_init_8 : decode cX2_init 8 = .ok (.newarray .int, 2) := by decide +kernel
theorem dX2_init_10 : decode cX2_init 10 = .ok (.putfield 9, 3) := by decide +kernel
theorem dX2_init_13 : decode cX2_init 13 = .ok (.aload_n 0, 1) := by decide +kernel
theorem dX2_init_14 : decode cX2_init 14 = .ok (.iconst 5, 1) := by decide +kernel
theorem dX2_init_15 : decode cX2_init 15 = .ok (.newarray .int, 2) := by decide +kernel
theorem dX2_init_17 : decode cX2_init 17 = .ok (.putfield 15, 3) := by decide +kernel
theorem dX2_init_20 : decode cX2_init 20 = .ok (.aload_n 0, 1) := by decide +kernel
theorem dX2_init_21 : decode cX2_init 21 = .ok (.iconst (-1), 1) := by decide +kernel
theorem dX2_init_22 : decode cX2_init 22 = .ok (.putfield 18, 3) := by decide +kernel
theorem dX2_init_25 : decode cX2_init 25 = .ok (.return_, 1) := by decide +kernel
theorem oi1_X2_init : Cond.methodLink RX2 3 objectInit ∈ wsX2_init := by decide +kernel
theorem oi2_X2_init : Cond.instanceMethod objectInit ∈ wsX2_init := by decide +kernel
theorem oi3_X2_init : Cond.code objectInit ⟨#[0xb1]⟩ 1 none ∈ wsX2_init := by decide +kernel
theorem oi4_X2_init : Cond.arrayClass .int ∈ wsX2_init := by decide +kernel
theorem hin_X2_init_X2 : ∀ w ∈ wsX20, w ∈ wsX2_init := by decide +kernel
theorem lk_X2_init_9 : Cond.fieldLink RX2 9 RX2 "bytes" "[I" ∈ wsX2_init := by decide +kernel
theorem lk_X2_init_15 : Cond.fieldLink RX2 15 RX2 "numbers" "[I" ∈ wsX2_init := by decide +kernel
theorem lk_X2_init_18 : Cond.fieldLink RX2 18 RX2 "fault" "I" ∈ wsX2_init := by decide +kernel
theorem i_X2 (hG : GP G) (hx : hasS S h (.inr (.inr (0, ksX2)))) : Ct G l yX2_init wsX2_init 1 2 155 [.ref h] S (h + 1) mu la (Nw h (h + 1) 2 S mu la (fun S' mu' _ => TxS S' h ∧ (∀ i, mu' (h + 1) i = 0) ∧ (∀ i, mu' (h + 2) i = 0) ∧ ∀ i, mu' h i = if i = 4 then -1 else mu h i)) := by
  refine Ct.ofI (cc := cX2_init) (nL := 1) (ret := none) [some (.ref h)] hG (by decide) rfl (Nat.le_of_ble_eq_true rfl) rfl ?_
  rintro X rfl rfl C hnm0 hcl hsl E
  refine V_aload_n C dX2_init_0 rfl ?_
  refine V_objInit C dX2_init_1 oi1_X2_init oi2_X2_init oi3_X2_init (by decide) (by decide) ?_
  refine V_aload_n C dX2_init_4 rfl ?_
  refine V_sipush C dX2_init_5 (by decide +kernel) ?_
  refine V_newa C 150 dX2_init_8 oi4_X2_init rfl (by decide) ⟨by omega, by omega⟩ ?_
  refine V_putO C hnm0 0 dX2_init_10 (by repeat (first | with_reducible exact hx | with_reducible exact hx0 | exact hx.1 | with_reducible exact hasS_new _ _ _ | with_reducible refine hasS_reM ?_ | with_reducible refine memG ?_ | with_reducible refine memR ?_ | with_reducible refine hasS_grow ?_ (by omega) | with_reducible refine hasS_re ?_ (by omega) | exact hasS_new _ _ _ | refine hasS_reM ?_)) rfl hin_X2_init_X2 tyX2 tyX2_ok nmX2 (by decide) lk_X2_init_9 rfl rfl (tyX2_ok 0 (by decide)) rfl rfl (Nat.le_of_ble_eq_true rfl) ?_
  refine V_aload_n C dX2_init_13 rfl ?_
  refine V_iconst C dX2_init_14 ?_
  refine V_newa C 5 dX2_init_15 oi4_X2_init rfl (by decide) ⟨by omega, by omega⟩ ?_
  refine V_putO C hnm0 1 dX2_init_17 (by repeat (first | with_reducible exact hx | with_reducible exact hx0 | exact hx.1 | with_reducible exact hasS_new _ _ _ | with_reducible refine hasS_reM ?_ | with_reducible refine memG ?_ | with_reducible refine memR ?_ | with_reducible refine hasS_grow ?_ (by omega) | with_reducible refine hasS_re ?_ (by omega) | exact hasS_new _ _ _ | refine hasS_reM ?_)) rfl hin_X2_init_X2 tyX2 tyX2_ok nmX2 (by decide) lk_X2_init_15 rfl rfl (tyX2_ok 1 (by decide)) rfl rfl (Nat.le_of_ble_eq_true rfl) ?_
  refine V_aload_n C dX2_init_20 rfl ?_
  refine V_iconst C dX2_init_21 ?_
  refine V_putI C 4 dX2_init_22 (by repeat (first | with_reducible exact hx | with_reducible exact hx0 | exact hx.1 | with_reducible exact hasS_new _ _ _ | with_reducible refine hasS_reM ?_ | with_reducible refine memG ?_ | with_reducible refine memR ?_ | with_reducible refine hasS_grow ?_ (by omega) | with_reducible refine hasS_re ?_ (by omega) | exact hasS_new _ _ _ | refine hasS_reM ?_)) rfl hin_X2_init_X2 tyX2 tyX2_ok nmX2 (by decide) lk_X2_init_18 rfl rfl (by decide +kernel) rfl ?_
  refine V_return C E dX2_init_25 (by omega) (by omega) ?_
  refine ⟨rfl, rfl, ?_, ?_, ⟨?_, ?_, ?_⟩, ?_, ?_, ?_⟩
  · intro b x hb hne hxb
    repeat (first | exact hxb | refine hasS_re ?_ (by omega) | refine hasS_grow ?_ (by omega))
  · intro b hb hne
    constructor <;> intro i <;> (repeat (first | rfl | rw [zm_a _ _ (by omega)] | rw [zl_a _ _ (by omega)] | rw [up_a _ _ _ _ (by omega)]))
  · exact (by repeat (first | exact hx | exact hx.1 | exact hasS_new _ _ _ | refine hasS_reM ?_ | with_reducible refine memG ?_ | with_reducible refine memR ?_ | refine hasS_grow ?_ (by omega) | refine hasS_re ?_ (by omega)))
  · exact (by repeat (first | exact hx | exact hx.1 | exact hasS_new _ _ _ | refine hasS_reM ?_ | with_reducible refine memG ?_ | with_reducible refine memR ?_ | refine hasS_grow ?_ (by omega) | refine hasS_re ?_ (by omega)))
  · exact (by repeat (first | exact hx | exact hx.1 | exact hasS_new _ _ _ | refine hasS_reM ?_ | with_reducible refine memG ?_ | with_reducible refine memR ?_ | refine hasS_grow ?_ (by omega) | refine hasS_re ?_ (by omega)))
  · intro i
    repeat (first | rfl | rw [zm_s] | rw [up_a _ _ _ _ (by omega)] | rw [zm_a _ _ (by omega)])
  · intro i
    repeat (first | rfl | rw [zm_s] | rw [up_a _ _ _ _ (by omega)] | rw [zm_a _ _ (by omega)])
  · intro i
    rw [up_e]
    by_cases hi : i = 4
    · rw [if_pos ⟨rfl, by omega⟩, if_pos hi]
    · rw [if_neg (by omega), if_neg hi]
      (repeat (first | rfl | rw [zm_s] | rw [zm_a _ _ (by omega)]))
set_option maxRecDepth 20000 in
theorem ggX4_init_J7_fill_53178 : GoodIn wsX4_init wsJ7_fill_53178 := goodIn_r _ [16] (by decide +kernel) (by decide +kernel)
set_option maxRecDepth 20000 in
theorem gX4_init_J7_fill_53178 : GoodIn wsX4_init (va_wsS RX4 36 yJ7_fill_53178 wsJ7_fill_53178) := goodIn_app (goodIn_of _ (by decide +kernel)) ggX4_init_J7_fill_53178
theorem dX4_init_0 : decode cX4_init 0 = .ok (.aload_n 0, 1) := by decide +kernel
theorem dX4_init_1 : decode cX4_init 1 = .ok (.invokespecial 3, 3) := by decide +kernel
theorem dX4_init_4 : decode cX4_init 4 = .ok (.aload_n 0, 1) := by decide +kernel
theorem dX4_init_5 : decode cX4_init 5 = .ok (.bipush 49, 2) := by decide +kernel
theorem dX4_init_7 : decode cX4_init 7 = .ok (.newarray .int, 2) := by decide +kernel
theorem dX4_init_9 : decode cX4_init 9 = .ok (.putfield 9, 3) := by decide +kernel
theorem dX4_init_12 : decode cX4_init 12 = .ok (.aload_n 0, 1) := by decide +kernel
theorem dX4_init_13 : decode cX4_init 13 = .ok (.bipush 49, 2) := by decide +kernel
theorem dX4_init_15 : decode cX4_init 15 = .ok (.newarray .int, 2) := by decide +kernel
theorem dX4_init_17 : decode cX4_init 17 = .ok (.putfield 15, 3) := by decide +kernel
theorem dX4_init_20 : decode cX4_init 20 = .ok (.aload_n 0, 1) := by decide +kernel
theorem dX4_init_21 : decode cX4_init 21 = .ok (.bipush 49, 2) := by decide +kernel
theorem dX4_init_23 : decode cX4_init 23 = .ok (.newarray .int, 2) := by decide +kernel
theorem dX4_init_25 : decode cX4_init 25 = .ok (.putfield 18, 3) := by decide +kernel
theorem dX4_init_28 : decode cX4_init 28 = .ok (.aload_n 0, 1) := by decide +kernel
theorem dX4_init_29 : decode cX4_init 29 = .ok (.bipush 49, 2) := by decide +kernel
theorem dX4_init_31 : decode cX4_init 31 = .ok (.newarray .int, 2) := by decide +kernel
theorem dX4_init_33 : decode cX4_init 33 = .ok (.putfield 21, 3) := by decide +kernel
theorem dX4_init_36 : decode cX4_init 36 = .ok (.aload_n 0, 1) := by decide +kernel
theorem dX4_init_37 : decode cX4_init 37 = .ok (.bipush 16, 2) := by decide +kernel
theorem dX4_init_39 : decode cX4_init 39 = .ok (.newarray .int, 2) := by decide +kernel
theorem dX4_init_41 : decode cX4_init 41 = .ok (.putfield 24, 3) := by decide +kernel
theorem dX4_init_44 : decode cX4_init 44 = .ok (.aload_n 0, 1) := by decide +kernel
theorem dX4_init_45 : decode cX4_init 45 = .ok (.bipush 16, 2) := by decide +kernel
theorem dX4_init_47 : decode cX4_init 47 = .ok (.newarray .int, 2) := by decide +kernel
theorem dX4_init_49 : decode cX4_init 49 = .ok (.putfield 27, 3) := by decide +kernel
theorem dX4_init_52 : decode cX4_init 52 = .ok (.aload_n 0, 1) := by decide +kernel
theorem dX4_init_53 : decode cX4_init 53 = .ok (.bipush 32, 2) := by decide +kernel
theorem dX4_init_55 : decode cX4_init 55 = .ok (.newarray .int, 2) := by decide +kernel
theorem dX4_init_57 : decode cX4_init 57 = .ok (.putfield 30, 3) := by decide +kernel
theorem dX4_init_60 : decode cX4_init 60 = .ok (.aload_n 0, 1) := by decide +kernel
theorem dX4_init_61 : decode cX4_init 61 = .ok (.bipush 32, 2) := by decide +kernel
theorem dX4_init_63 : decode cX4_init 63 = .ok (.newarray .int, 2) := by decide +kernel
theorem dX4_init_65 : decode cX4_init 65 = .ok (.putfield 33, 3) := by decide +kernel
theorem dX4_init_68 : decode cX4_init 68 = .ok (.aload_n 0, 1) := by decide +kernel
theorem dX4_init_69 : decode cX4_init 69 = .ok (.getfield 9, 3) := by decide +kernel
theorem dX4_init_72 : decode cX4_init 72 = .ok (.iconst (-1), 1) := by decide +kernel
theorem dX4_init_73 : decode cX4_init 73 = .ok (.invokestatic 36, 3) := by decide +kernel
theorem dX4_init_76 : decode cX4_init 76 = .ok (.return_, 1) := by decide +kernel
theorem oi1_X4_init : Cond.methodLink RX4 3 objectInit ∈ wsX4_init := by decide +kernel
theorem oi2_X4_init : Cond.instanceMethod objectInit ∈ wsX4_init := by decide +kernel
theorem oi3_X4_init : Cond.code objectInit ⟨#[0xb1]⟩ 1 none ∈ wsX4_init := by decide +kernel
theorem oi4_X4_init : Cond.arrayClass .int ∈ wsX4_init := by decide +kernel
theorem hin_X4_init_X4 : ∀ w ∈ wsX40, w ∈ wsX4_init := by decide +kernel
theorem lk_X4_init_9 : Cond.fieldLink RX4 9 RX4 "holder" "[I" ∈ wsX4_init := by decide +kernel
theorem lk_X4_init_15 : Cond.fieldLink RX4 15 RX4 "place" "[I" ∈ wsX4_init := by decide +kernel
theorem lk_X4_init_18 : Cond.fieldLink RX4 18 RX4 "count" "[I" ∈ wsX4_init := by decide +kernel
theorem lk_X4_init_21 : Cond.fieldLink RX4 21 RX4 "weight" "[I" ∈ wsX4_init := by decide +kernel
theorem lk_X4_init_24 : Cond.fieldLink RX4 24 RX4 "active" "[I" ∈ wsX4_init := by decide +kernel
theorem lk_X4_init_27 : Cond.fieldLink RX4 27 RX4 "axis" "[I" ∈ wsX4_init := by decide +kernel
theorem lk_X4_init_30 : Cond.fieldLink RX4 30 RX4 "start" "[I" ∈ wsX4_init := by decide +kernel
theorem lk_X4_init_33 : Cond.fieldLink RX4 33 RX4 "size" "[I" ∈ wsX4_init := by decide +kernel
theorem i_X4 (hG : GP G) (hx : hasS S h (.inr (.inr (2, ksX4)))) : Ct G l yX4_init wsX4_init 1 8 292 [.ref h] S (h + 1) mu la (Nw h (h + 1) 8 S mu la (fun S' mu' _ => LayS S' h ∧ (∀ i, mu' (h + 1) i = if 0 ≤ i ∧ i < 49 then -1 else 0) ∧ (∀ k, 1 ≤ k → k ≤ 7 → ∀ i, mu' (h + 1 + k) i = 0) ∧ ∀ i, mu' h i = mu h i)) := by
  refine Ct.ofI (cc := cX4_init) (nL := 1) (ret := none) [some (.ref h)] hG (by decide) rfl (Nat.le_of_ble_eq_true rfl) rfl ?_
  rintro X rfl rfl C hnm0 hcl hsl E
  refine V_aload_n C dX4_init_0 rfl ?_
  refine V_objInit C dX4_init_1 oi1_X4_init oi2_X4_init oi3_X4_init (by decide) (by decide) ?_
  refine V_aload_n C dX4_init_4 rfl ?_
  refine V_bipush C dX4_init_5 (by decide +kernel) ?_
  refine V_newa C 49 dX4_init_7 oi4_X4_init rfl (by decide) ⟨by omega, by omega⟩ ?_
  refine V_putO C hnm0 0 dX4_init_9 (by repeat (first | with_reducible exact hx | with_reducible exact hx0 | exact hx.1 | with_reducible exact hasS_new _ _ _ | with_reducible refine hasS_reM ?_ | with_reducible refine memG ?_ | with_reducible refine memR ?_ | with_reducible refine hasS_grow ?_ (by omega) | with_reducible refine hasS_re ?_ (by omega) | exact hasS_new _ _ _ | refine hasS_reM ?_)) rfl hin_X4_init_X4 tyX4 tyX4_ok nmX4 (by decide) lk_X4_init_9 rfl rfl (tyX4_ok 0 (by decide)) rfl rfl (Nat.le_of_ble_eq_true rfl) ?_
  refine V_aload_n C dX4_init_12 rfl ?_
  refine V_bipush C dX4_init_13 (by decide +kernel) ?_
  refine V_newa C 49 dX4_init_15 oi4_X4_init rfl (by decide) ⟨by omega, by omega⟩ ?_
  refine V_putO C hnm0 1 dX4_init_17 (by repeat (first | with_reducible exact hx | with_reducible exact hx0 | exact hx.1 | with_reducible exact hasS_new _ _ _ | with_reducible refine hasS_reM ?_ | with_reducible refine memG ?_ | with_reducible refine memR ?_ | with_reducible refine hasS_grow ?_ (by omega) | with_reducible refine hasS_re ?_ (by omega) | exact hasS_new _ _ _ | refine hasS_reM ?_)) rfl hin_X4_init_X4 tyX4 tyX4_ok nmX4 (by decide) lk_X4_init_15 rfl rfl (tyX4_ok 1 (by decide)) rfl rfl (Nat.le_of_ble_eq_true rfl) ?_
  refine V_aload_n C dX4_init_20 rfl ?_
  refine V_bipush C dX4_init_21 (by decide +kernel) ?_
  refine V_newa C 49 dX4_init_23 oi4_X4_init rfl (by decide) ⟨by omega, by omega⟩ ?_
  refine V_putO C hnm0 2 dX4_init_25 (by repeat (first | with_reducible exact hx | with_reducible exact hx0 | exact hx.1 | with_reducible exact hasS_new _ _ _ | with_reducible refine hasS_reM ?_ | with_reducible refine memG ?_ | with_reducible refine memR ?_ | with_reducible refine hasS_grow ?_ (by omega) | with_reducible refine hasS_re ?_ (by omega) | exact hasS_new _ _ _ | refine hasS_reM ?_)) rfl hin_X4_init_X4 tyX4 tyX4_ok nmX4 (by decide) lk_X4_init_18 rfl rfl (tyX4_ok 2 (by decide)) rfl rfl (Nat.le_of_ble_eq_true rfl) ?_
  refine V_aload_n C dX4_init_28 rfl ?_
  refine V_bipush C dX4_init_29 (by decide +kernel) ?_
  refine V_newa C 49 dX4_init_31 oi4_X4_init rfl (by decide) ⟨by omega, by omega⟩ ?_
  refine V_putO C hnm0 3 dX4_init_33 (by repeat (first | with_reducible exact hx | with_reducible exact hx0 | exact hx.1 | with_reducible exact hasS_new _ _ _ | with_reducible refine hasS_reM ?_ | with_reducible refine memG ?_ | with_reducible refine memR ?_ | with_reducible refine hasS_grow ?_ (by omega) | with_reducible refine hasS_re ?_ (by omega) | exact hasS_new _ _ _ | refine hasS_reM ?_)) rfl hin_X4_init_X4 tyX4 tyX4_ok nmX4 (by decide) lk_X4_init_21 rfl rfl (tyX4_ok 3 (by decide)) rfl rfl (Nat.le_of_ble_eq_true rfl) ?_
  refine V_aload_n C dX4_init_36 rfl ?_
  refine V_bipush C dX4_init_37 (by decide +kernel) ?_
  refine V_newa C 16 dX4_init_39 oi4_X4_init rfl (by decide) ⟨by omega, by omega⟩ ?_
  refine V_putO C hnm0 4 dX4_init_41 (by repeat (first | with_reducible exact hx | with_reducible exact hx0 | exact hx.1 | with_reducible exact hasS_new _ _ _ | with_reducible refine hasS_reM ?_ | with_reducible refine memG ?_ | with_reducible refine memR ?_ | with_reducible refine hasS_grow ?_ (by omega) | with_reducible refine hasS_re ?_ (by omega) | exact hasS_new _ _ _ | refine hasS_reM ?_)) rfl hin_X4_init_X4 tyX4 tyX4_ok nmX4 (by decide) lk_X4_init_24 rfl rfl (tyX4_ok 4 (by decide)) rfl rfl (Nat.le_of_ble_eq_true rfl) ?_
  refine V_aload_n C dX4_init_44 rfl ?_
  refine V_bipush C dX4_init_45 (by decide +kernel) ?_
  refine V_newa C 16 dX4_init_47 oi4_X4_init rfl (by decide) ⟨by omega, by omega⟩ ?_
  refine V_putO C hnm0 5 dX4_init_49 (by repeat (first | with_reducible exact hx | with_reducible exact hx0 | exact hx.1 | with_reducible exact hasS_new _ _ _ | with_reducible refine hasS_reM ?_ | with_reducible refine memG ?_ | with_reducible refine memR ?_ | with_reducible refine hasS_grow ?_ (by omega) | with_reducible refine hasS_re ?_ (by omega) | exact hasS_new _ _ _ | refine hasS_reM ?_)) rfl hin_X4_init_X4 tyX4 tyX4_ok nmX4 (by decide) lk_X4_init_27 rfl rfl (tyX4_ok 5 (by decide)) rfl rfl (Nat.le_of_ble_eq_true rfl) ?_
  refine V_aload_n C dX4_init_52 rfl ?_
  refine V_bipush C dX4_init_53 (by decide +kernel) ?_
  refine V_newa C 32 dX4_init_55 oi4_X4_init rfl (by decide) ⟨by omega, by omega⟩ ?_
  refine V_putO C hnm0 6 dX4_init_57 (by repeat (first | with_reducible exact hx | with_reducible exact hx0 | exact hx.1 | with_reducible exact hasS_new _ _ _ | with_reducible refine hasS_reM ?_ | with_reducible refine memG ?_ | with_reducible refine memR ?_ | with_reducible refine hasS_grow ?_ (by omega) | with_reducible refine hasS_re ?_ (by omega) | exact hasS_new _ _ _ | refine hasS_reM ?_)) rfl hin_X4_init_X4 tyX4 tyX4_ok nmX4 (by decide) lk_X4_init_30 rfl rfl (tyX4_ok 6 (by decide)) rfl rfl (Nat.le_of_ble_eq_true rfl) ?_
  refine V_aload_n C dX4_init_60 rfl ?_
  refine V_bipush C dX4_init_61 (by decide +kernel) ?_
  refine V_newa C 32 dX4_init_63 oi4_X4_init rfl (by decide) ⟨by omega, by omega⟩ ?_
  refine V_putO C hnm0 7 dX4_init_65 (by repeat (first | with_reducible exact hx | with_reducible exact hx0 | exact hx.1 | with_reducible exact hasS_new _ _ _ | with_reducible refine hasS_reM ?_ | with_reducible refine memG ?_ | with_reducible refine memR ?_ | with_reducible refine hasS_grow ?_ (by omega) | with_reducible refine hasS_re ?_ (by omega) | exact hasS_new _ _ _ | refine hasS_reM ?_)) rfl hin_X4_init_X4 tyX4 tyX4_ok nmX4 (by decide) lk_X4_init_33 rfl rfl (tyX4_ok 7 (by decide)) rfl rfl (Nat.le_of_ble_eq_true rfl) ?_
  refine V_aload_n C dX4_init_68 rfl ?_
  refine V_getR C 0 dX4_init_69 (by repeat (first | with_reducible exact hx | with_reducible exact hx0 | exact hx.1 | with_reducible exact hasS_new _ _ _ | with_reducible refine hasS_reM ?_ | with_reducible refine memG ?_ | with_reducible refine memR ?_ | with_reducible refine hasS_grow ?_ (by omega) | with_reducible refine hasS_re ?_ (by omega) | exact hasS_new _ _ _ | refine hasS_reM ?_)) rfl hin_X4_init_X4 (by decide) lk_X4_init_9 rfl rfl ?_
  refine V_iconst C dX4_init_72 ?_
  refine V_callSD (nA := 2) C dX4_init_73 (c_fill C.gp (by repeat (first | exact hx | exact hx.1 | exact hasS_new _ _ _ | refine hasS_reM ?_ | with_reducible refine memG ?_ | with_reducible refine memR ?_ | refine hasS_grow ?_ (by omega) | refine hasS_re ?_ (by omega))) (by decide)) gX4_init_J7_fill_53178 rfl (by decide +kernel) rfl (by decide) (by decide) (Nat.le_of_ble_eq_true rfl) ⟨by omega, by omega⟩ rfl ?_
  refine V_return C E dX4_init_76 (by omega) (by omega) ?_
  refine ⟨rfl, rfl, ?_, ?_, ⟨?_, ?_⟩, ?_, ?_, ?_⟩
  · intro b x hb hne hxb
    repeat (first | exact hxb | refine hasS_re ?_ (by omega) | refine hasS_grow ?_ (by omega))
  · intro b hb hne
    constructor
    · intro i
      unfold flR
      rw [if_neg (by omega)]
      repeat (first | rfl | rw [zm_a _ _ (by omega)])
    · intro i
      repeat (first | rfl | rw [zl_a _ _ (by omega)])
  · exact (by repeat (first | exact hx | exact hx.1 | exact hasS_new _ _ _ | refine hasS_reM ?_ | with_reducible refine memG ?_ | with_reducible refine memR ?_ | refine hasS_grow ?_ (by omega) | refine hasS_re ?_ (by omega)))
  · intro k k2
    rcases (show k = 0 ∨ k = 1 ∨ k = 2 ∨ k = 3 ∨ k = 4 ∨ k = 5 ∨ k = 6 ∨ k = 7 by omega) with rfl | rfl | rfl | rfl | rfl | rfl | rfl | rfl <;> exact (by repeat (first | exact hx | exact hx.1 | exact hasS_new _ _ _ | refine hasS_reM ?_ | with_reducible refine memG ?_ | with_reducible refine memR ?_ | refine hasS_grow ?_ (by omega) | refine hasS_re ?_ (by omega)))
  · intro i
    unfold flR
    by_cases hi : 0 ≤ i ∧ i < 49
    · rw [if_pos ⟨rfl, hi.1, hi.2, hi.2⟩, if_pos hi]
    · rw [if_neg (by omega), if_neg hi]
      (repeat (first | rfl | rw [zm_s] | rw [zm_a _ _ (by omega)]))
  · intro k k1 k2 i
    unfold flR
    rw [if_neg (by omega)]
    rcases (show k = 1 ∨ k = 2 ∨ k = 3 ∨ k = 4 ∨ k = 5 ∨ k = 6 ∨ k = 7 by omega) with rfl | rfl | rfl | rfl | rfl | rfl | rfl <;> (repeat (first | rfl | rw [zm_s] | rw [zm_a _ _ (by omega)]))
  · intro i
    unfold flR
    rw [if_neg (by omega)]
    (repeat (first | rfl | rw [zm_s] | rw [zm_a _ _ (by omega)]))
set_option maxRecDepth 20000 in
theorem ggX5_init_X6_init : GoodIn wsX5_init wsX6_init := goodIn_r _ [18, 19, 2, 3, 4, 20, 21, 22, 23, 37, 38, 39, 40, 41, 42] (by decide +kernel) (by decide +kernel)
set_option maxRecDepth 20000 in
theorem gX5_init_X6_init_n38 : GoodIn wsX5_init (wsX6_init) := ggX5_init_X6_init
theorem dX5_init_0 : decode cX5_init 0 = .ok (.aload_n 0, 1) := by decide +kernel
theorem dX5_init_1 : decode cX5_init 1 = .ok (.invokespecial 3, 3) := by decide +kernel
theorem dX5_init_4 : decode cX5_init 4 = .ok (.aload_n 0, 1) := by decide +kernel
theorem dX5_init_5 : decode cX5_init 5 = .ok (.sipush 528, 3) := by decide +kernel
theorem dX5_init_8 : decode cX5_init 8 = .ok (.newarray .int, 2) := by decide +kernel
theorem dX5_init_10 : decode cX5_init 10 = .ok (.putfield 9, 3) := by decide +kernel
theorem dX5_init_13 : decode cX5_init 13 = .ok (.aload_n 0, 1) := by decide +kernel
theorem dX5_init_14 : decode cX5_init 14 = .ok (.bipush 31, 2) := by decide +kernel
theorem dX5_init_16 : decode cX5_init 16 = .ok (.newarray .int, 2) := by decide +kernel
theorem dX5_init_18 : decode cX5_init 18 = .ok (.putfield 15, 3) := by decide +kernel
theorem dX5_init_21 : decode cX5_init 21 = .ok (.aload_n 0, 1) := by decide +kernel
theorem dX5_init_22 : decode cX5_init 22 = .ok (.bipush 31, 2) := by decide +kernel
theorem dX5_init_24 : decode cX5_init 24 = .ok (.newarray .int, 2) := by decide +kernel
theorem dX5_init_26 : decode cX5_init 26 = .ok (.putfield 18, 3) := by decide +kernel
theorem dX5_init_29 : decode cX5_init 29 = .ok (.aload_n 0, 1) := by decide +kernel
theorem dX5_init_30 : decode cX5_init 30 = .ok (.bipush 98, 2) := by decide +kernel
theorem dX5_init_32 : decode cX5_init 32 = .ok (.newarray .int, 2) := by decide +kernel
theorem dX5_init_34 : decode cX5_init 34 = .ok (.putfield 21, 3) := by decide +kernel
theorem dX5_init_37 : decode cX5_init 37 = .ok (.aload_n 0, 1) := by decide +kernel
theorem dX5_init_38 : decode cX5_init 38 = .ok (.bipush 98, 2) := by decide +kernel
theorem dX5_init_40 : decode cX5_init 40 = .ok (.newarray .int, 2) := by decide +kernel
theorem dX5_init_42 : decode cX5_init 42 = .ok (.putfield 24, 3) := by decide +kernel
theorem dX5_init_45 : decode cX5_init 45 = .ok (.aload_n 0, 1) := by decide +kernel
theorem dX5_init_46 : decode cX5_init 46 = .ok (.bipush 98, 2) := by decide +kernel
theorem dX5_init_48 : decode cX5_init 48 = .ok (.newarray .int, 2) := by decide +kernel
theorem dX5_init_50 : decode cX5_init 50 = .ok (.putfield 27, 3) := by decide +kernel
theorem dX5_init_53 : decode cX5_init 53 = .ok (.aload_n 0, 1) := by decide +kernel
theorem dX5_init_54 : decode cX5_init 54 = .ok (.bipush 49, 2) := by decide +kernel
theorem dX5_init_56 : decode cX5_init 56 = .ok (.newarray .int, 2) := by decide +kernel
theorem dX5_init_58 : decode cX5_init 58 = .ok (.putfield 30, 3) := by decide +kernel
theorem dX5_init_61 : decode cX5_init 61 = .ok (.aload_n 0, 1) := by decide +kernel
theorem dX5_init_62 : decode cX5_init 62 = .ok (.bipush 49, 2) := by decide +kernel
theorem dX5_init_64 : decode cX5_init 64 = .ok (.newarray .int, 2) := by decide +kernel
theorem dX5_init_66 : decode cX5_init 66 = .ok (.putfield 33, 3) := by decide +kernel
theorem dX5_init_69 : decode cX5_init 69 = .ok (.aload_n 0, 1) := by decide +kernel
theorem dX5_init_70 : decode cX5_init 70 = .ok (.new 36, 3) := by decide +kernel
theorem dX5_init_73 : decode cX5_init 73 = .ok (.dup, 1) := by decide +kernel
theorem dX5_init_74 : decode cX5_init 74 = .ok (.invokespecial 38, 3) := by decide +kernel
theorem dX5_init_77 : decode cX5_init 77 = .ok (.putfield 39, 3) := by decide +kernel
theorem dX5_init_80 : decode cX5_init 80 = .ok (.return_, 1) := by decide +kernel
theorem oi1_X5_init : Cond.methodLink RX5 3 objectInit ∈ wsX5_init := by decide +kernel
theorem oi2_X5_init : Cond.instanceMethod objectInit ∈ wsX5_init := by decide +kernel
theorem oi3_X5_init : Cond.code objectInit ⟨#[0xb1]⟩ 1 none ∈ wsX5_init := by decide +kernel
theorem oi4_X5_init : Cond.arrayClass .int ∈ wsX5_init := by decide +kernel
theorem nc_X5_init_70 : Cond.classLink RX5 36 RX6 ∈ wsX5_init := by decide +kernel
theorem nd_X5_init_70 : Cond.instantiable RX6 6 ∈ wsX5_init := by decide +kernel
theorem ne_X5_init_70 : Cond.initialized RX6 ∈ wsX5_init := by decide +kernel
theorem hin9_X5_init_70 : ∀ w ∈ wsX60, w ∈ wsX5_init := by decide +kernel
theorem hin_X5_init_X5 : ∀ w ∈ wsX50, w ∈ wsX5_init := by decide +kernel
theorem lk_X5_init_9 : Cond.fieldLink RX5 9 RX5 "members" "[I" ∈ wsX5_init := by decide +kernel
theorem lk_X5_init_15 : Cond.fieldLink RX5 15 RX5 "order" "[I" ∈ wsX5_init := by decide +kernel
theorem lk_X5_init_18 : Cond.fieldLink RX5 18 RX5 "waiting" "[I" ∈ wsX5_init := by decide +kernel
theorem lk_X5_init_21 : Cond.fieldLink RX5 21 RX5 "least" "[I" ∈ wsX5_init := by decide +kernel
theorem lk_X5_init_24 : Cond.fieldLink RX5 24 RX5 "start" "[I" ∈ wsX5_init := by decide +kernel
theorem lk_X5_init_27 : Cond.fieldLink RX5 27 RX5 "size" "[I" ∈ wsX5_init := by decide +kernel
theorem lk_X5_init_30 : Cond.fieldLink RX5 30 RX5 "depth" "[I" ∈ wsX5_init := by decide +kernel
theorem lk_X5_init_33 : Cond.fieldLink RX5 33 RX5 "tight" "[I" ∈ wsX5_init := by decide +kernel
theorem lk_X5_init_39 : Cond.fieldLink RX5 39 RX5 "sharing" "LDockTree$Sharing;" ∈ wsX5_init := by decide +kernel
theorem i_X5 (hG : GP G) (hx : hasS S h (.inr (.inr (3, ksX5)))) : Ct G l yX5_init wsX5_init 2 13 1052 [.ref h] S (h + 1) mu la (Nw h (h + 1) 13 S mu la (fun S' mu' _ => PlanS S' h ∧ (∀ k, 1 ≤ k → k ≤ 13 → ∀ i, mu' (h + k) i = 0) ∧ ∀ i, mu' h i = mu h i)) := by
  refine Ct.ofI (cc := cX5_init) (nL := 1) (ret := none) [some (.ref h)] hG (by decide) rfl (Nat.le_of_ble_eq_true rfl) rfl ?_
  rintro X rfl rfl C hnm0 hcl hsl E
  refine V_aload_n C dX5_init_0 rfl ?_
  refine V_objInit C dX5_init_1 oi1_X5_init oi2_X5_init oi3_X5_init (by decide) (by decide) ?_
  refine V_aload_n C dX5_init_4 rfl ?_
  refine V_sipush C dX5_init_5 (by decide +kernel) ?_
  refine V_newa C 528 dX5_init_8 oi4_X5_init rfl (by decide) ⟨by omega, by omega⟩ ?_
  refine V_putO C hnm0 0 dX5_init_10 (by repeat (first | with_reducible exact hx | with_reducible exact hx0 | exact hx.1 | with_reducible exact hasS_new _ _ _ | with_reducible refine hasS_reM ?_ | with_reducible refine memG ?_ | with_reducible refine memR ?_ | with_reducible refine hasS_grow ?_ (by omega) | with_reducible refine hasS_re ?_ (by omega) | exact hasS_new _ _ _ | refine hasS_reM ?_)) rfl hin_X5_init_X5 tyX5 tyX5_ok nmX5 (by decide) lk_X5_init_9 rfl rfl (tyX5_ok 0 (by decide)) rfl rfl (Nat.le_of_ble_eq_true rfl) ?_
  refine V_aload_n C dX5_init_13 rfl ?_
  refine V_bipush C dX5_init_14 (by decide +kernel) ?_
  refine V_newa C 31 dX5_init_16 oi4_X5_init rfl (by decide) ⟨by omega, by omega⟩ ?_
  refine V_putO C hnm0 1 dX5_init_18 (by repeat (first | with_reducible exact hx | with_reducible exact hx0 | exact hx.1 | with_reducible exact hasS_new _ _ _ | with_reducible refine hasS_reM ?_ | with_reducible refine memG ?_ | with_reducible refine memR ?_ | with_reducible refine hasS_grow ?_ (by omega) | with_reducible refine hasS_re ?_ (by omega) | exact hasS_new _ _ _ | refine hasS_reM ?_)) rfl hin_X5_init_X5 tyX5 tyX5_ok nmX5 (by decide) lk_X5_init_15 rfl rfl (tyX5_ok 1 (by decide)) rfl rfl (Nat.le_of_ble_eq_true rfl) ?_
  refine V_aload_n C dX5_init_21 rfl ?_
  refine V_bipush C dX5_init_22 (by decide +kernel) ?_
  refine V_newa C 31 dX5_init_24 oi4_X5_init rfl (by decide) ⟨by omega, by omega⟩ ?_
  refine V_putO C hnm0 2 dX5_init_26 (by repeat (first | with_reducible exact hx | with_reducible exact hx0 | exact hx.1 | with_reducible exact hasS_new _ _ _ | with_reducible refine hasS_reM ?_ | with_reducible refine memG ?_ | with_reducible refine memR ?_ | with_reducible refine hasS_grow ?_ (by omega) | with_reducible refine hasS_re ?_ (by omega) | exact hasS_new _ _ _ | refine hasS_reM ?_)) rfl hin_X5_init_X5 tyX5 tyX5_ok nmX5 (by decide) lk_X5_init_18 rfl rfl (tyX5_ok 2 (by decide)) rfl rfl (Nat.le_of_ble_eq_true rfl) ?_
  refine V_aload_n C dX5_init_29 rfl ?_
  refine V_bipush C dX5_init_30 (by decide +kernel) ?_
  refine V_newa C 98 dX5_init_32 oi4_X5_init rfl (by decide) ⟨by omega, by omega⟩ ?_
  refine V_putO C hnm0 3 dX5_init_34 (by repeat (first | with_reducible exact hx | with_reducible exact hx0 | exact hx.1 | with_reducible exact hasS_new _ _ _ | with_reducible refine hasS_reM ?_ | with_reducible refine memG ?_ | with_reducible refine memR ?_ | with_reducible refine hasS_grow ?_ (by omega) | with_reducible refine hasS_re ?_ (by omega) | exact hasS_new _ _ _ | refine hasS_reM ?_)) rfl hin_X5_init_X5 tyX5 tyX5_ok nmX5 (by decide) lk_X5_init_21 rfl rfl (tyX5_ok 3 (by decide)) rfl rfl (Nat.le_of_ble_eq_true rfl) ?_
  refine V_aload_n C dX5_init_37 rfl ?_
  refine V_bipush C dX5_init_38 (by decide +kernel) ?_
  refine V_newa C 98 dX5_init_40 oi4_X5_init rfl (by decide) ⟨by omega, by omega⟩ ?_
  refine V_putO C hnm0 4 dX5_init_42 (by repeat (first | with_reducible exact hx | with_reducible exact hx0 | exact hx.1 | with_reducible exact hasS_new _ _ _ | with_reducible refine hasS_reM ?_ | with_reducible refine memG ?_ | with_reducible refine memR ?_ | with_reducible refine hasS_grow ?_ (by omega) | with_reducible refine hasS_re ?_ (by omega) | exact hasS_new _ _ _ | refine hasS_reM ?_)) rfl hin_X5_init_X5 tyX5 tyX5_ok nmX5 (by decide) lk_X5_init_24 rfl rfl (tyX5_ok 4 (by decide)) rfl rfl (Nat.le_of_ble_eq_true rfl) ?_
  refine V_aload_n C dX5_init_45 rfl ?_
  refine V_bipush C dX5_init_46 (by decide +kernel) ?_
  refine V_newa C 98 dX5_init_48 oi4_X5_init rfl (by decide) ⟨by omega, by omega⟩ ?_
  refine V_putO C hnm0 5 dX5_init_50 (by repeat (first | with_reducible exact hx | with_reducible exact hx0 | exact hx.1 | with_reducible exact hasS_new _ _ _ | with_reducible refine hasS_reM ?_ | with_reducible refine memG ?_ | with_reducible refine memR ?_ | with_reducible refine hasS_grow ?_ (by omega) | with_reducible refine hasS_re ?_ (by omega) | exact hasS_new _ _ _ | refine hasS_reM ?_)) rfl hin_X5_init_X5 tyX5 tyX5_ok nmX5 (by decide) lk_X5_init_27 rfl rfl (tyX5_ok 5 (by decide)) rfl rfl (Nat.le_of_ble_eq_true rfl) ?_
  refine V_aload_n C dX5_init_53 rfl ?_
  refine V_bipush C dX5_init_54 (by decide +kernel) ?_
  refine V_newa C 49 dX5_init_56 oi4_X5_init rfl (by decide) ⟨by omega, by omega⟩ ?_
  refine V_putO C hnm0 6 dX5_init_58 (by repeat (first | with_reducible exact hx | with_reducible exact hx0 | exact hx.1 | with_reducible exact hasS_new _ _ _ | with_reducible refine hasS_reM ?_ | with_reducible refine memG ?_ | with_reducible refine memR ?_ | with_reducible refine hasS_grow ?_ (by omega) | with_reducible refine hasS_re ?_ (by omega) | exact hasS_new _ _ _ | refine hasS_reM ?_)) rfl hin_X5_init_X5 tyX5 tyX5_ok nmX5 (by decide) lk_X5_init_30 rfl rfl (tyX5_ok 6 (by decide)) rfl rfl (Nat.le_of_ble_eq_true rfl) ?_
  refine V_aload_n C dX5_init_61 rfl ?_
  refine V_bipush C dX5_init_62 (by decide +kernel) ?_
  refine V_newa C 49 dX5_init_64 oi4_X5_init rfl (by decide) ⟨by omega, by omega⟩ ?_
  refine V_putO C hnm0 7 dX5_init_66 (by repeat (first | with_reducible exact hx | with_reducible exact hx0 | exact hx.1 | with_reducible exact hasS_new _ _ _ | with_reducible refine hasS_reM ?_ | with_reducible refine memG ?_ | with_reducible refine memR ?_ | with_reducible refine hasS_grow ?_ (by omega) | with_reducible refine hasS_re ?_ (by omega) | exact hasS_new _ _ _ | refine hasS_reM ?_)) rfl hin_X5_init_X5 tyX5 tyX5_ok nmX5 (by decide) lk_X5_init_33 rfl rfl (tyX5_ok 7 (by decide)) rfl rfl (Nat.le_of_ble_eq_true rfl) ?_
  refine V_aload_n C dX5_init_69 rfl ?_
  refine V_newo C (ci := 4) (ks := ksX6) dX5_init_70 rfl hin9_X5_init_70 tyX6 tyX6_ok nc_X5_init_70 nd_X5_init_70 ne_X5_init_70 rfl ⟨by omega, by omega⟩ ?_
  refine V_dup C dX5_init_73 rfl ?_
  refine V_callIN (nA := 0) (host := "DockTree") C dX5_init_74 (i_X6 C.gp (by repeat (first | exact hx | exact hx.1 | exact hasS_new _ _ _ | refine hasS_reM ?_ | with_reducible refine memG ?_ | with_reducible refine memR ?_ | refine hasS_grow ?_ (by omega) | refine hasS_re ?_ (by omega)))) gX5_init_X6_init_n38 (by decide +kernel) (by decide +kernel) (by decide +kernel) rfl rfl (by decide +kernel) rfl (by decide) (by decide) (Nat.le_of_ble_eq_true rfl) ⟨by omega, by omega⟩ rfl ?_
  rintro o S1 n1 mu1 la1 ⟨rfl, rfl, e1, m1, q1, q2, q3⟩
  refine V_putO C hnm0 8 dX5_init_77 (by repeat (first | with_reducible exact hx | with_reducible exact hx0 | exact hx.1 | refine e1 _ _ (by omega) (by omega) ?_ | refine (e1 _ _ (by omega) (by omega) ⟨?_, rfl⟩).1 | with_reducible exact hasS_new _ _ _ | with_reducible refine hasS_reM ?_ | with_reducible refine memG ?_ | with_reducible refine memR ?_ | with_reducible refine hasS_grow ?_ (by omega) | with_reducible refine hasS_re ?_ (by omega) | exact hasS_new _ _ _ | refine hasS_reM ?_)) rfl hin_X5_init_X5 tyX5 tyX5_ok nmX5 (by decide) lk_X5_init_39 rfl rfl (tyX5_ok 8 (by decide)) rfl rfl (Nat.le_of_ble_eq_true rfl) ?_
  refine V_return C E dX5_init_80 (by omega) (by omega) ?_
  refine ⟨rfl, by omega, ?_, ?_, ⟨?_, ?_, ?_⟩, ?_, ?_⟩
  · intro b x hb hne hxb
    refine hasS_re (e1 _ _ (by omega) (by omega) ?_) (by omega)
    repeat (first | exact hxb | refine hasS_re ?_ (by omega) | refine hasS_grow ?_ (by omega))
  · intro b hb hne
    constructor <;> intro i
    · rw [(m1 b (by omega) (by omega)).1]
      repeat (first | rfl | rw [zm_a _ _ (by omega)])
    · rw [(m1 b (by omega) (by omega)).2]
      repeat (first | rfl | rw [zl_a _ _ (by omega)])
  · exact hasS_reM (e1 h _ (by omega) (by omega) ⟨(by repeat (first | exact hx.1 | with_reducible refine memG ?_ | with_reducible refine memR ?_)), rfl⟩).1
  · exact hasS_re q1 (by omega)
  · intro k k1
    have k2 := plen_14 k1
    have k3 : k ≠ 0 ∧ k ≠ 9 := ⟨fun q => k1 (by rw [q]; rfl), fun q => k1 (by rw [q]; rfl)⟩
    refine hasS_re ?_ (by omega)
    rcases (show k = 1 ∨ k = 2 ∨ k = 3 ∨ k = 4 ∨ k = 5 ∨ k = 6 ∨ k = 7 ∨ k = 8 ∨ k = 10 ∨ k = 11 ∨ k = 12 ∨ k = 13 by omega) with rfl | rfl | rfl | rfl | rfl | rfl | rfl | rfl | rfl | rfl | rfl | rfl
    all_goals first
      | exact e1 _ _ (by omega) (by omega) (by repeat (first | exact hx | exact hx.1 | exact hasS_new _ _ _ | refine hasS_reM ?_ | with_reducible refine memG ?_ | with_reducible refine memR ?_ | refine hasS_grow ?_ (by omega) | refine hasS_re ?_ (by omega)))
      | exact (q2 1 (by decide) (by decide)).1
      | exact (q2 2 (by decide) (by decide)).1
      | exact (q2 3 (by decide) (by decide)).1
      | exact (q2 4 (by decide) (by decide)).1
  · intro k k1 k2 i
    by_cases k9 : k < 9
    · rw [(m1 (h + k) (by omega) (by omega)).1]
      rcases (show k = 1 ∨ k = 2 ∨ k = 3 ∨ k = 4 ∨ k = 5 ∨ k = 6 ∨ k = 7 ∨ k = 8 by omega) with rfl | rfl | rfl | rfl | rfl | rfl | rfl | rfl <;> (repeat (first | rfl | rw [zm_s] | rw [zm_a _ _ (by omega)]))
    · by_cases k10 : k = 9
      · subst k10
        exact (q3 i).trans (zm_s _ _ _)
      · have := (q2 (k - 9) (by omega) (by omega)).2 i
        rw [show h + 1 + 1 + 1 + 1 + 1 + 1 + 1 + 1 + 1 + (k - 9) = h + k by omega] at this
        exact this
  · intro i
    rw [(m1 h (by omega) (by omega)).1]
    (repeat (first | rfl | rw [zm_s] | rw [zm_a _ _ (by omega)]))
end IN
/-- a row of references, seen by its places -/
theorem V_eta {X : Cx} {pc : Nat} {r : Rg} {st : List Value} {S : Sh} {n : Nat} {mu : Mem} {la : Lam} {k sl : Nat} {a m w : Nat} {f : Nat → Option Nat} (g : Nat → Option Nat) (hx : hasS S a (.inr (.inl (w, m, f)))) (hf : ∀ j, j < m → f j = g j)
    (kk : V X pc r st (reS S a (.inr (.inl (w, m, g)))) n mu la k sl) : V X pc r st S n mu la k sl := by
  intro H locs ls hH hS hl
  obtain ⟨j, hj, hat⟩ := hH.obj hx
  have e : ∀ cA : ClassId, vp_cell cA (m, .inr (.inr (.inr (.inr g)))) = vp_cell cA (m, .inr (.inr (.inr (.inr f)))) := by
    intro cA
    rw [vp_cell_q, vp_cell_q]
    show ({ cls := cA, slots := _, vm := .none } : Cell) = { cls := cA, slots := _, vm := .none }
    congr 1
    apply Array.ext
    · simp
    · intro i h1 h2
      simp only [Array.size_ofFn] at h1
      simp only [Array.getElem_ofFn]
      rw [hf i h1]
  refine kk H locs ls (hH.reput hx ?_ rfl (fun _ _ => rfl)) hS hl
  cases w with
  | zero =>
    show H[a]? = some (vp_cell _ _)
    rw [e]; exact hat
  | succ w =>
    show H[a]? = some (vp_cell _ _)
    rw [e]; exact hat
