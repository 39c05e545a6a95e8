/-! CONSTRUCTORS -/
abbrev kN : Sk := .inl .null
def ksX2 : List Sk := [kN, kN, .inr 0, .inr 0, .inr 0, .inr 2]
def ksX3 : List Sk := [kN, .inr 0, .inr 0]
def ksX4 : List Sk := [kN, kN, kN, kN, kN, kN, kN, kN]
def ksX5 : List Sk := [kN, kN, kN, kN, kN, kN, kN, kN, kN, .inr 0, .inr 0, .inr 0, .inr 0]
def ksX6 : List Sk := [kN, kN, kN, kN, .inr 0, .inr 0]
def ksX7 : List Sk := [.inr 0, .inr 0, .inr 0, kN, kN, kN, kN]
/-- behind a constructor of h: c cells more, the others as before, P of the new ones -/
def Nw (h n c : Nat) (S : Sh) (mu : Mem) (la : Lam) (P : Sh → Mem → Lam → Prop) : Option Value → Sh → Nat → Mem → Lam → Prop := fun o S' n' mu' la' =>
  o = none ∧ n' = n + c ∧ (∀ b x, b < n → b ≠ h → hasS S b x → hasS S' b x) ∧ (∀ b, b < n → b ≠ h → (∀ i, mu' b i = mu b i) ∧ ∀ i, la' b i = la b i) ∧ P S' mu' la'
section IN
variable {G : Gx} {l : Launch} {S : Sh} {mu : Mem} {la : Lam} {h : Nat}
theorem dX6_init_0 : decode cX6_init 0 = .ok (.aload_n 0, 1) := by decide +kernel
theorem dX6_init_1 : decode cX6_init 1 = .ok (.invokespecial 3, 3) := by decide +kernel
theorem dX6_init_4 : decode cX6_init 4 = .ok (.aload_n 0, 1) := by decide +kernel
theorem dX6_init_5 : decode cX6_init 5 = .ok (.bipush 16, 2) := by decide +kernel
theorem dX6_init_7 : decode cX6_init 7 = .ok (.newarray .int, 2) := by decide +kernel
theorem dX6_init_9 : decode cX6_init 9 = .ok (.putfield 9, 3) := by decide +kernel
theorem dX6_init_12 : decode cX6_init 12 = .ok (.aload_n 0, 1) := by decide +kernel
theorem dX6_init_13 : decode cX6_init 13 = .ok (.bipush 16, 2) := by decide +kernel
theorem dX6_init_15 : decode cX6_init 15 = .ok (.newarray .int, 2) := by decide +kernel
theorem dX6_init_17 : decode cX6_init 17 = .ok (.putfield 15, 3) := by decide +kernel
theorem dX6_init_20 : decode cX6_init 20 = .ok (.aload_n 0, 1) := by decide +kernel
theorem dX6_init_21 : decode cX6_init 21 = .ok (.bipush 16, 2) := by decide +kernel
theorem dX6_init_23 : decode cX6_init 23 = .ok (.newarray .int, 2) := by decide +kernel
theorem dX6_init_25 : decode cX6_init 25 = .ok (.putfield 18, 3) := by decide +kernel
theorem dX6_init_28 : decode cX6_init 28 = .ok (.aload_n 0, 1) := by decide +kernel
theorem dX6_init_29 : decode cX6_init 29 = .ok (.bipush 16, 2) := by decide +kernel
theorem dX6_init_31 : decode cX6_init 31 = .ok (.newarray .int, 2) := by decide +kernel
theorem dX6_init_33 : decode cX6_init 33 = .ok (.putfield 21, 3) := by decide +kernel
theorem dX6_init_36 : decode cX6_init 36 = .ok (.return_, 1) := by decide +kernel
theorem oi1_X6_init : Cond.methodLink RX6 3 objectInit ∈ wsX6_init := by decide +kernel
theorem oi2_X6_init : Cond.instanceMethod objectInit ∈ wsX6_init := by decide +kernel
theorem oi3_X6_init : Cond.code objectInit ⟨#[0xb1]⟩ 1 none ∈ wsX6_init := by decide +kernel
theorem oi4_X6_init : Cond.arrayClass .int ∈ wsX6_init := by decide +kernel
theorem hin_X6_init_X6 : ∀ w ∈ wsX60, w ∈ wsX6_init := by decide +kernel
theorem lk_X6_init_9 : Cond.fieldLink RX6 9 RX6 "least" "[I" ∈ wsX6_init := by decide +kernel
theorem lk_X6_init_15 : Cond.fieldLink RX6 15 RX6 "weight" "[I" ∈ wsX6_init := by decide +kernel
theorem lk_X6_init_18 : Cond.fieldLink RX6 18 RX6 "given" "[I" ∈ wsX6_init := by decide +kernel
theorem lk_X6_init_21 : Cond.fieldLink RX6 21 RX6 "free" "[I" ∈ wsX6_init := by decide +kernel
theorem i_X6 (hG : GP G) (hx : hasS S h (.inr (.inr (4, ksX6)))) : Ct G l yX6_init wsX6_init 1 4 64 [.ref h] S (h + 1) mu la (Nw h (h + 1) 4 S mu la (fun S' mu' _ => hasS S' h (.inr (.inr (4, [.inl (.ref (h + 1)), .inl (.ref (h + 2)), .inl (.ref (h + 3)), .inl (.ref (h + 4)), .inr 0, .inr 0]))) ∧ (∀ k, 1 ≤ k → k ≤ 4 → hasS S' (h + k) (.inl (0, 16)) ∧ ∀ i, mu' (h + k) i = 0) ∧ ∀ i, mu' h i = mu h i)) := by
  refine Ct.ofI (cc := cX6_init) (nL := 1) (ret := none) [some (.ref h)] hG (by decide) rfl (Nat.le_of_ble_eq_true rfl) rfl ?_
  rintro X rfl rfl C hnm0 hcl hsl E
  refine V_aload_n C dX6_init_0 rfl ?_
  refine V_objInit C dX6_init_1 oi1_X6_init oi2_X6_init oi3_X6_init (by decide) (by decide) ?_
  refine V_aload_n C dX6_init_4 rfl ?_
  refine V_bipush C dX6_init_5 (by decide +kernel) ?_
  refine V_newa C 16 dX6_init_7 oi4_X6_init rfl (by decide) ⟨by omega, by omega⟩ ?_
  refine V_putO C hnm0 0 dX6_init_9 (by repeat (first | exact hx | exact hx.1 | exact hasS_new _ _ _ | refine hasS_reM ?_ | with_reducible refine memG ?_ | with_reducible refine memR ?_ | refine hasS_grow ?_ (by omega) | refine hasS_re ?_ (by omega))) rfl hin_X6_init_X6 tyX6 tyX6_ok nmX6 (by decide) lk_X6_init_9 rfl rfl (tyX6_ok 0 (by decide)) rfl rfl (Nat.le_of_ble_eq_true rfl) ?_
  refine V_aload_n C dX6_init_12 rfl ?_
  refine V_bipush C dX6_init_13 (by decide +kernel) ?_
  refine V_newa C 16 dX6_init_15 oi4_X6_init rfl (by decide) ⟨by omega, by omega⟩ ?_
  refine V_putO C hnm0 1 dX6_init_17 (by repeat (first | exact hx | exact hx.1 | exact hasS_new _ _ _ | refine hasS_reM ?_ | with_reducible refine memG ?_ | with_reducible refine memR ?_ | refine hasS_grow ?_ (by omega) | refine hasS_re ?_ (by omega))) rfl hin_X6_init_X6 tyX6 tyX6_ok nmX6 (by decide) lk_X6_init_15 rfl rfl (tyX6_ok 1 (by decide)) rfl rfl (Nat.le_of_ble_eq_true rfl) ?_
  refine V_aload_n C dX6_init_20 rfl ?_
  refine V_bipush C dX6_init_21 (by decide +kernel) ?_
  refine V_newa C 16 dX6_init_23 oi4_X6_init rfl (by decide) ⟨by omega, by omega⟩ ?_
  refine V_putO C hnm0 2 dX6_init_25 (by repeat (first | exact hx | exact hx.1 | exact hasS_new _ _ _ | refine hasS_reM ?_ | with_reducible refine memG ?_ | with_reducible refine memR ?_ | refine hasS_grow ?_ (by omega) | refine hasS_re ?_ (by omega))) rfl hin_X6_init_X6 tyX6 tyX6_ok nmX6 (by decide) lk_X6_init_18 rfl rfl (tyX6_ok 2 (by decide)) rfl rfl (Nat.le_of_ble_eq_true rfl) ?_
  refine V_aload_n C dX6_init_28 rfl ?_
  refine V_bipush C dX6_init_29 (by decide +kernel) ?_
  refine V_newa C 16 dX6_init_31 oi4_X6_init rfl (by decide) ⟨by omega, by omega⟩ ?_
  refine V_putO C hnm0 3 dX6_init_33 (by repeat (first | exact hx | exact hx.1 | exact hasS_new _ _ _ | refine hasS_reM ?_ | with_reducible refine memG ?_ | with_reducible refine memR ?_ | refine hasS_grow ?_ (by omega) | refine hasS_re ?_ (by omega))) rfl hin_X6_init_X6 tyX6 tyX6_ok nmX6 (by decide) lk_X6_init_21 rfl rfl (tyX6_ok 3 (by decide)) rfl rfl (Nat.le_of_ble_eq_true rfl) ?_
  refine V_return C E dX6_init_36 (by omega) (by omega) ?_
  refine ⟨rfl, rfl, ?_, ?_, ?_, ?_, ?_⟩
  · intro b x hb hne hxb
    repeat (first | exact hxb | refine hasS_re ?_ (by omega) | refine hasS_grow ?_ (by omega))
  · intro b hb hne
    constructor <;> intro i <;> (repeat (first | rfl | rw [zm_a _ _ (by omega)] | rw [zl_a _ _ (by omega)] | rw [up_a _ _ _ _ (by omega)]))
  · exact (by repeat (first | exact hx | exact hx.1 | exact hasS_new _ _ _ | refine hasS_reM ?_ | with_reducible refine memG ?_ | with_reducible refine memR ?_ | refine hasS_grow ?_ (by omega) | refine hasS_re ?_ (by omega)))
  · intro k k1 k2
    rcases (show k = 1 ∨ k = 2 ∨ k = 3 ∨ k = 4 by omega) with rfl | rfl | rfl | rfl <;> exact ⟨(by repeat (first | exact hx | exact hx.1 | exact hasS_new _ _ _ | refine hasS_reM ?_ | with_reducible refine memG ?_ | with_reducible refine memR ?_ | refine hasS_grow ?_ (by omega) | refine hasS_re ?_ (by omega))), fun i => by (repeat (first | rfl | rw [zm_s] | rw [zm_a _ _ (by omega)]))⟩
  · intro i
    (repeat (first | rfl | rw [zm_s] | rw [zm_a _ _ (by omega)]))
theorem dX2_init_0 : decode cX2_init 0 = .ok (.aload_n 0, 1) := by decide +kernel
theorem dX2_init_1 : decode cX2_init 1 = .ok (.invokespecial 3, 3) := by decide +kernel
theorem dX2_init_4 : decode cX2_init 4 = .ok (.aload_n 0, 1) := by decide +kernel
theorem dX2_init_5 : decode cX2_init 5 = .ok (.sipush 150, 3) := by decide +kernel
theorem dX2_init_8 : decode cX2_init 8 = .ok (.newarray .int, 2) := by decide +kernel
theorem dX2_init_10 : decode cX2_init 10 = .ok (.putfield 9, 3) := by decide +kernel
theorem dX2_init_13 : decode cX2_init 13 = .ok (.aload_n 0, 1) := by decide +kernel
theorem dX2_init_14 : decode cX2_init 14 = .ok (.iconst 5, 1) := by decide +kernel
theorem dX2_init_15 : decode cX2_init 15 = .ok (.newarray .int, 2) := by decide +kernel
theorem dX2_init_17 : decode cX2_init 17 = .ok (.putfield 15, 3) := by decide +kernel
theorem dX2_init_20 : decode cX2_init 20 = .ok (.aload_n 0, 1) := by decide +kernel
theorem dX2_init_21 : decode cX2_init 21 = .ok (.iconst (-1), 1) := by decide +kernel
theorem dX2_init_22 : decode cX2_init 22 = .ok (.putfield 18, 3) := by decide +kernel
theorem dX2_init_25 : decode cX2_init 25 = .ok (.return_, 1) := by decide +kernel
theorem oi1_X2_init : Cond.methodLink RX2 3 objectInit ∈ wsX2_init := by decide +kernel
theorem oi2_X2_init : Cond.instanceMethod objectInit ∈ wsX2_init := by decide +kernel
theorem oi3_X2_init : Cond.code objectInit ⟨#[0xb1]⟩ 1 none ∈ wsX2_init := by decide +kernel
theorem oi4_X2_init : Cond.arrayClass .int ∈ wsX2_init := by decide +kernel
theorem hin_X2_init_X2 : ∀ w ∈ wsX20, w ∈ wsX2_init := by decide +kernel
theorem lk_X2_init_9 : Cond.fieldLink RX2 9 RX2 "bytes" "[I" ∈ wsX2_init := by decide +kernel
theorem lk_X2_init_15 : Cond.fieldLink RX2 15 RX2 "numbers" "[I" ∈ wsX2_init := by decide +kernel
theorem lk_X2_init_18 : Cond.fieldLink RX2 18 RX2 "fault" "I" ∈ wsX2_init := by decide +kernel
theorem i_X2 (hG : GP G) (hx : hasS S h (.inr (.inr (0, ksX2)))) : Ct G l yX2_init wsX2_init 1 2 155 [.ref h] S (h + 1) mu la (Nw h (h + 1) 2 S mu la (fun S' mu' _ => TxS S' h ∧ (∀ i, mu' (h + 1) i = 0) ∧ (∀ i, mu' (h + 2) i = 0) ∧ ∀ i, mu' h i = if i = 4 then -1 else mu h i)) := by
  refine Ct.ofI (cc := cX2_init) (nL := 1) (ret := none) [some (.ref h)] hG (by decide) rfl (Nat.le_of_ble_eq_true rfl) rfl ?_
  rintro X rfl rfl C hnm0 hcl hsl E
  refine V_aload_n C dX2_init_0 rfl ?_
  refine V_objInit C dX2_init_1 oi1_X2_init oi2_X2_init oi3_X2_init (by decide) (by decide) ?_
  refine V_aload_n C dX2_init_4 rfl ?_
  refine V_sipush C dX2_init_5 (by decide +kernel) ?_
  refine V_newa C 150 dX2_init_8 oi4_X2_init rfl (by decide) ⟨by omega, by omega⟩ ?_
  refine V_putO C hnm0 0 dX2_init_10 (by repeat (first | exact hx | exact hx.1 | exact hasS_new _ _ _ | refine hasS_reM ?_ | with_reducible refine memG ?_ | with_reducible refine memR ?_ | refine hasS_grow ?_ (by omega) | refine hasS_re ?_ (by omega))) rfl hin_X2_init_X2 tyX2 tyX2_ok nmX2 (by decide) lk_X2_init_9 rfl rfl (tyX2_ok 0 (by decide)) rfl rfl (Nat.le_of_ble_eq_true rfl) ?_
  refine V_aload_n C dX2_init_13 rfl ?_
  refine V_iconst C dX2_init_14 ?_
  refine V_newa C 5 dX2_init_15 oi4_X2_init rfl (by decide) ⟨by omega, by omega⟩ ?_
  refine V_putO C hnm0 1 dX2_init_17 (by repeat (first | exact hx | exact hx.1 | exact hasS_new _ _ _ | refine hasS_reM ?_ | with_reducible refine memG ?_ | with_reducible refine memR ?_ | refine hasS_grow ?_ (by omega) | refine hasS_re ?_ (by omega))) rfl hin_X2_init_X2 tyX2 tyX2_ok nmX2 (by decide) lk_X2_init_15 rfl rfl (tyX2_ok 1 (by decide)) rfl rfl (Nat.le_of_ble_eq_true rfl) ?_
  refine V_aload_n C dX2_init_20 rfl ?_
  refine V_iconst C dX2_init_21 ?_
  refine V_putI C 4 dX2_init_22 (by repeat (first | exact hx | exact hx.1 | exact hasS_new _ _ _ | refine hasS_reM ?_ | with_reducible refine memG ?_ | with_reducible refine memR ?_ | refine hasS_grow ?_ (by omega) | refine hasS_re ?_ (by omega))) rfl hin_X2_init_X2 tyX2 tyX2_ok nmX2 (by decide) lk_X2_init_18 rfl rfl (by decide +kernel) rfl ?_
  refine V_return C E dX2_init_25 (by omega) (by omega) ?_
  refine ⟨rfl, rfl, ?_, ?_, ⟨?_, ?_, ?_⟩, ?_, ?_, ?_⟩
  · intro b x hb hne hxb
    repeat (first | exact hxb | refine hasS_re ?_ (by omega) | refine hasS_grow ?_ (by omega))
  · intro b hb hne
    constructor <;> intro i <;> (repeat (first | rfl | rw [zm_a _ _ (by omega)] | rw [zl_a _ _ (by omega)] | rw [up_a _ _ _ _ (by omega)]))
  · exact (by repeat (first | exact hx | exact hx.1 | exact hasS_new _ _ _ | refine hasS_reM ?_ | with_reducible refine memG ?_ | with_reducible refine memR ?_ | refine hasS_grow ?_ (by omega) | refine hasS_re ?_ (by omega)))
  · exact (by repeat (first | exact hx | exact hx.1 | exact hasS_new _ _ _ | refine hasS_reM ?_ | with_reducible refine memG ?_ | with_reducible refine memR ?_ | refine hasS_grow ?_ (by omega) | refine hasS_re ?_ (by omega)))
  · exact (by repeat (first | exact hx | exact hx.1 | exact hasS_new _ _ _ | refine hasS_reM ?_ | with_reducible refine memG ?_ | with_reducible refine memR ?_ | refine hasS_grow ?_ (by omega) | refine hasS_re ?_ (by omega)))
  · intro i
    repeat (first | rfl | rw [zm_s] | rw [up_a _ _ _ _ (by omega)] | rw [zm_a _ _ (by omega)])
  · intro i
    repeat (first | rfl | rw [zm_s] | rw [up_a _ _ _ _ (by omega)] | rw [zm_a _ _ (by omega)])
  · intro i
    rw [up_e]
    by_cases hi : i = 4
    · rw [if_pos ⟨rfl, by omega⟩, if_pos hi]
    · rw [if_neg (by omega), if_neg hi]
      (repeat (first | rfl | rw [zm_s] | rw [zm_a _ _ (by omega)]))
set_option maxRecDepth 20000 in
theorem ggX4_init_J7_fill_53178 : GoodIn wsX4_init wsJ7_fill_53178 := goodIn_r _ [16] (by decide +kernel) (by decide +kernel)
set_option maxRecDepth 20000 in
theorem gX4_init_J7_fill_53178 : GoodIn wsX4_init (va_wsS RX4 36 yJ7_fill_53178 wsJ7_fill_53178) := goodIn_app (goodIn_of _ (by decide +kernel)) ggX4_init_J7_fill_53178
theorem dX4_init_0 : decode cX4_init 0 = .ok (.aload_n 0, 1) := by decide +kernel
theorem dX4_init_1 : decode cX4_init 1 = .ok (.invokespecial 3, 3) := by decide +kernel
theorem dX4_init_4 : decode cX4_init 4 = .ok (.aload_n 0, 1) := by decide +kernel
theorem dX4_init_5 : decode cX4_init 5 = .ok (.bipush 49, 2) := by decide +kernel
theorem dX4_init_7 : decode cX4_init 7 = .ok (.newarray .int, 2) := by decide +kernel
theorem dX4_init_9 : decode cX4_init 9 = .ok (.putfield 9, 3) := by decide +kernel
theorem dX4_init_12 : decode cX4_init 12 = .ok (.aload_n 0, 1) := by decide +kernel
theorem dX4_init_13 : decode cX4_init 13 = .ok (.bipush 49, 2) := by decide +kernel
theorem dX4_init_15 : decode cX4_init 15 = .ok (.newarray .int, 2) := by decide +kernel
theorem dX4_init_17 : decode cX4_init 17 = .ok (.putfield 15, 3) := by decide +kernel
theorem dX4_init_20 : decode cX4_init 20 = .ok (.aload_n 0, 1) := by decide +kernel
theorem dX4_init_21 : decode cX4_init 21 = .ok (.bipush 49, 2) := by decide +kernel
theorem dX4_init_23 : decode cX4_init 23 = .ok (.newarray .int, 2) := by decide +kernel
theorem dX4_init_25 : decode cX4_init 25 = .ok (.putfield 18, 3) := by decide +kernel
theorem dX4_init_28 : decode cX4_init 28 = .ok (.aload_n 0, 1) := by decide +kernel
theorem dX4_init_29 : decode cX4_init 29 = .ok (.bipush 49, 2) := by decide +kernel
theorem dX4_init_31 : decode cX4_init 31 = .ok (.newarray .int, 2) := by decide +kernel
theorem dX4_init_33 : decode cX4_init 33 = .ok (.putfield 21, 3) := by decide +kernel
theorem dX4_init_36 : decode cX4_init 36 = .ok (.aload_n 0, 1) := by decide +kernel
theorem dX4_init_37 : decode cX4_init 37 = .ok (.bipush 16, 2) := by decide +kernel
theorem dX4_init_39 : decode cX4_init 39 = .ok (.newarray .int, 2) := by decide +kernel
theorem dX4_init_41 : decode cX4_init 41 = .ok (.putfield 24, 3) := by decide +kernel
theorem dX4_init_44 : decode cX4_init 44 = .ok (.aload_n 0, 1) := by decide +kernel
theorem dX4_init_45 : decode cX4_init 45 = .ok (.bipush 16, 2) := by decide +kernel
theorem dX4_init_47 : decode cX4_init 47 = .ok (.newarray .int, 2) := by decide +kernel
theorem dX4_init_49 : decode cX4_init 49 = .ok (.putfield 27, 3) := by decide +kernel
theorem dX4_init_52 : decode cX4_init 52 = .ok (.aload_n 0, 1) := by decide +kernel
theorem dX4_init_53 : decode cX4_init 53 = .ok (.bipush 32, 2) := by decide +kernel
theorem dX4_init_55 : decode cX4_init 55 = .ok (.newarray .int, 2) := by decide +kernel
theorem dX4_init_57 : decode cX4_init 57 = .ok (.putfield 30, 3) := by decide +kernel
theorem dX4_init_60 : decode cX4_init 60 = .ok (.aload_n 0, 1) := by decide +kernel
theorem dX4_init_61 : decode cX4_init 61 = .ok (.bipush 32, 2) := by decide +kernel
theorem dX4_init_63 : decode cX4_init 63 = .ok (.newarray .int, 2) := by decide +kernel
theorem dX4_init_65 : decode cX4_init 65 = .ok (.putfield 33, 3) := by decide +kernel
theorem dX4_init_68 : decode cX4_init 68 = .ok (.aload_n 0, 1) := by decide +kernel
theorem dX4_init_69 : decode cX4_init 69 = .ok (.getfield 9, 3) := by decide +kernel
theorem dX4_init_72 : decode cX4_init 72 = .ok (.iconst (-1), 1) := by decide +kernel
theorem dX4_init_73 : decode cX4_init 73 = .ok (.invokestatic 36, 3) := by decide +kernel
theorem dX4_init_76 : decode cX4_init 76 = .ok (.return_, 1) := by decide +kernel
theorem oi1_X4_init : Cond.methodLink RX4 3 objectInit ∈ wsX4_init := by decide +kernel
theorem oi2_X4_init : Cond.instanceMethod objectInit ∈ wsX4_init := by decide +kernel
theorem oi3_X4_init : Cond.code objectInit ⟨#[0xb1]⟩ 1 none ∈ wsX4_init := by decide +kernel
theorem oi4_X4_init : Cond.arrayClass .int ∈ wsX4_init := by decide +kernel
theorem hin_X4_init_X4 : ∀ w ∈ wsX40, w ∈ wsX4_init := by decide +kernel
theorem lk_X4_init_9 : Cond.fieldLink RX4 9 RX4 "holder" "[I" ∈ wsX4_init := by decide +kernel
theorem lk_X4_init_15 : Cond.fieldLink RX4 15 RX4 "place" "[I" ∈ wsX4_init := by decide +kernel
theorem lk_X4_init_18 : Cond.fieldLink RX4 18 RX4 "count" "[I" ∈ wsX4_init := by decide +kernel
theorem lk_X4_init_21 : Cond.fieldLink RX4 21 RX4 "weight" "[I" ∈ wsX4_init := by decide +kernel
theorem lk_X4_init_24 : Cond.fieldLink RX4 24 RX4 "active" "[I" ∈ wsX4_init := by decide +kernel
theorem lk_X4_init_27 : Cond.fieldLink RX4 27 RX4 "axis" "[I" ∈ wsX4_init := by decide +kernel
theorem lk_X4_init_30 : Cond.fieldLink RX4 30 RX4 "start" "[I" ∈ wsX4_init := by decide +kernel
theorem lk_X4_init_33 : Cond.fieldLink RX4 33 RX4 "size" "[I" ∈ wsX4_init := by decide +kernel
theorem i_X4 (hG : GP G) (hx : hasS S h (.inr (.inr (2, ksX4)))) : Ct G l yX4_init wsX4_init 1 8 292 [.ref h] S (h + 1) mu la (Nw h (h + 1) 8 S mu la (fun S' mu' _ => LayS S' h ∧ (∀ i, mu' (h + 1) i = if 0 ≤ i ∧ i < 49 then -1 else 0) ∧ (∀ k, 1 ≤ k → k ≤ 7 → ∀ i, mu' (h + 1 + k) i = 0) ∧ ∀ i, mu' h i = mu h i)) := by
  refine Ct.ofI (cc := cX4_init) (nL := 1) (ret := none) [some (.ref h)] hG (by decide) rfl (Nat.le_of_ble_eq_true rfl) rfl ?_
  rintro X rfl rfl C hnm0 hcl hsl E
  refine V_aload_n C dX4_init_0 rfl ?_
  refine V_objInit C dX4_init_1 oi1_X4_init oi2_X4_init oi3_X4_init (by decide) (by decide) ?_
  refine V_aload_n C dX4_init_4 rfl ?_
  refine V_bipush C dX4_init_5 (by decide +kernel) ?_
  refine V_newa C 49 dX4_init_7 oi4_X4_init rfl (by decide) ⟨by omega, by omega⟩ ?_
  refine V_putO C hnm0 0 dX4_init_9 (by repeat (first | exact hx | exact hx.1 | exact hasS_new _ _ _ | refine hasS_reM ?_ | with_reducible refine memG ?_ | with_reducible refine memR ?_ | refine hasS_grow ?_ (by omega) | refine hasS_re ?_ (by omega))) rfl hin_X4_init_X4 tyX4 tyX4_ok nmX4 (by decide) lk_X4_init_9 rfl rfl (tyX4_ok 0 (by decide)) rfl rfl (Nat.le_of_ble_eq_true rfl) ?_
  refine V_aload_n C dX4_init_12 rfl ?_
  refine V_bipush C dX4_init_13 (by decide +kernel) ?_
  refine V_newa C 49 dX4_init_15 oi4_X4_init rfl (by decide) ⟨by omega, by omega⟩ ?_
  refine V_putO C hnm0 1 dX4_init_17 (by repeat (first | exact hx | exact hx.1 | exact hasS_new _ _ _ | refine hasS_reM ?_ | with_reducible refine memG ?_ | with_reducible refine memR ?_ | refine hasS_grow ?_ (by omega) | refine hasS_re ?_ (by omega))) rfl hin_X4_init_X4 tyX4 tyX4_ok nmX4 (by decide) lk_X4_init_15 rfl rfl (tyX4_ok 1 (by decide)) rfl rfl (Nat.le_of_ble_eq_true rfl) ?_
  refine V_aload_n C dX4_init_20 rfl ?_
  refine V_bipush C dX4_init_21 (by decide +kernel) ?_
  refine V_newa C 49 dX4_init_23 oi4_X4_init rfl (by decide) ⟨by omega, by omega⟩ ?_
  refine V_putO C hnm0 2 dX4_init_25 (by repeat (first | exact hx | exact hx.1 | exact hasS_new _ _ _ | refine hasS_reM ?_ | with_reducible refine memG ?_ | with_reducible refine memR ?_ | refine hasS_grow ?_ (by omega) | refine hasS_re ?_ (by omega))) rfl hin_X4_init_X4 tyX4 tyX4_ok nmX4 (by decide) lk_X4_init_18 rfl rfl (tyX4_ok 2 (by decide)) rfl rfl (Nat.le_of_ble_eq_true rfl) ?_
  refine V_aload_n C dX4_init_28 rfl ?_
  refine V_bipush C dX4_init_29 (by decide +kernel) ?_
  refine V_newa C 49 dX4_init_31 oi4_X4_init rfl (by decide) ⟨by omega, by omega⟩ ?_
  refine V_putO C hnm0 3 dX4_init_33 (by repeat (first | exact hx | exact hx.1 | exact hasS_new _ _ _ | refine hasS_reM ?_ | with_reducible refine memG ?_ | with_reducible refine memR ?_ | refine hasS_grow ?_ (by omega) | refine hasS_re ?_ (by omega))) rfl hin_X4_init_X4 tyX4 tyX4_ok nmX4 (by decide) lk_X4_init_21 rfl rfl (tyX4_ok 3 (by decide)) rfl rfl (Nat.le_of_ble_eq_true rfl) ?_
  refine V_aload_n C dX4_init_36 rfl ?_
  refine V_bipush C dX4_init_37 (by decide +kernel) ?_
  refine V_newa C 16 dX4_init_39 oi4_X4_init rfl (by decide) ⟨by omega, by omega⟩ ?_
  refine V_putO C hnm0 4 dX4_init_41 (by repeat (first | exact hx | exact hx.1 | exact hasS_new _ _ _ | refine hasS_reM ?_ | with_reducible refine memG ?_ | with_reducible refine memR ?_ | refine hasS_grow ?_ (by omega) | refine hasS_re ?_ (by omega))) rfl hin_X4_init_X4 tyX4 tyX4_ok nmX4 (by decide) lk_X4_init_24 rfl rfl (tyX4_ok 4 (by decide)) rfl rfl (Nat.le_of_ble_eq_true rfl) ?_
  refine V_aload_n C dX4_init_44 rfl ?_
  refine V_bipush C dX4_init_45 (by decide +kernel) ?_
  refine V_newa C 16 dX4_init_47 oi4_X4_init rfl (by decide) ⟨by omega, by omega⟩ ?_
  refine V_putO C hnm0 5 dX4_init_49 (by repeat (first | exact hx | exact hx.1 | exact hasS_new _ _ _ | refine hasS_reM ?_ | with_reducible refine memG ?_ | with_reducible refine memR ?_ | refine hasS_grow ?_ (by omega) | refine hasS_re ?_ (by omega))) rfl hin_X4_init_X4 tyX4 tyX4_ok nmX4 (by decide) lk_X4_init_27 rfl rfl (tyX4_ok 5 (by decide)) rfl rfl (Nat.le_of_ble_eq_true rfl) ?_
  refine V_aload_n C dX4_init_52 rfl ?_
  refine V_bipush C dX4_init_53 (by decide +kernel) ?_
  refine V_newa C 32 dX4_init_55 oi4_X4_init rfl (by decide) ⟨by omega, by omega⟩ ?_
  refine V_putO C hnm0 6 dX4_init_57 (by repeat (first | exact hx | exact hx.1 | exact hasS_new _ _ _ | refine hasS_reM ?_ | with_reducible refine memG ?_ | with_reducible refine memR ?_ | refine hasS_grow ?_ (by omega) | refine hasS_re ?_ (by omega))) rfl hin_X4_init_X4 tyX4 tyX4_ok nmX4 (by decide) lk_X4_init_30 rfl rfl (tyX4_ok 6 (by decide)) rfl rfl (Nat.le_of_ble_eq_true rfl) ?_
  refine V_aload_n C dX4_init_60 rfl ?_
  refine V_bipush C dX4_init_61 (by decide +kernel) ?_
  refine V_newa C 32 dX4_init_63 oi4_X4_init rfl (by decide) ⟨by omega, by omega⟩ ?_
  refine V_putO C hnm0 7 dX4_init_65 (by repeat (first | exact hx | exact hx.1 | exact hasS_new _ _ _ | refine hasS_reM ?_ | with_reducible refine memG ?_ | with_reducible refine memR ?_ | refine hasS_grow ?_ (by omega) | refine hasS_re ?_ (by omega))) rfl hin_X4_init_X4 tyX4 tyX4_ok nmX4 (by decide) lk_X4_init_33 rfl rfl (tyX4_ok 7 (by decide)) rfl rfl (Nat.le_of_ble_eq_true rfl) ?_
  refine V_aload_n C dX4_init_68 rfl ?_
  refine V_getR C 0 dX4_init_69 (by repeat (first | exact hx | exact hx.1 | exact hasS_new _ _ _ | refine hasS_reM ?_ | with_reducible refine memG ?_ | with_reducible refine memR ?_ | refine hasS_grow ?_ (by omega) | refine hasS_re ?_ (by omega))) rfl hin_X4_init_X4 (by decide) lk_X4_init_9 rfl rfl ?_
  refine V_iconst C dX4_init_72 ?_
  refine V_callSD (nA := 2) C dX4_init_73 (c_fill C.gp (by repeat (first | exact hx | exact hx.1 | exact hasS_new _ _ _ | refine hasS_reM ?_ | with_reducible refine memG ?_ | with_reducible refine memR ?_ | refine hasS_grow ?_ (by omega) | refine hasS_re ?_ (by omega))) (by decide)) gX4_init_J7_fill_53178 rfl (by decide +kernel) rfl (by decide) (by decide) (Nat.le_of_ble_eq_true rfl) ⟨by omega, by omega⟩ rfl ?_
  refine V_return C E dX4_init_76 (by omega) (by omega) ?_
  refine ⟨rfl, rfl, ?_, ?_, ⟨?_, ?_⟩, ?_, ?_, ?_⟩
  · intro b x hb hne hxb
    repeat (first | exact hxb | refine hasS_re ?_ (by omega) | refine hasS_grow ?_ (by omega))
  · intro b hb hne
    constructor
    · intro i
      unfold flR
      rw [if_neg (by omega)]
      repeat (first | rfl | rw [zm_a _ _ (by omega)])
    · intro i
      repeat (first | rfl | rw [zl_a _ _ (by omega)])
  · exact (by repeat (first | exact hx | exact hx.1 | exact hasS_new _ _ _ | refine hasS_reM ?_ | with_reducible refine memG ?_ | with_reducible refine memR ?_ | refine hasS_grow ?_ (by omega) | refine hasS_re ?_ (by omega)))
  · intro k k2
    rcases (show k = 0 ∨ k = 1 ∨ k = 2 ∨ k = 3 ∨ k = 4 ∨ k = 5 ∨ k = 6 ∨ k = 7 by omega) with rfl | rfl | rfl | rfl | rfl | rfl | rfl | rfl <;> exact (by repeat (first | exact hx | exact hx.1 | exact hasS_new _ _ _ | refine hasS_reM ?_ | with_reducible refine memG ?_ | with_reducible refine memR ?_ | refine hasS_grow ?_ (by omega) | refine hasS_re ?_ (by omega)))
  · intro i
    unfold flR
    by_cases hi : 0 ≤ i ∧ i < 49
    · rw [if_pos ⟨rfl, hi.1, hi.2, hi.2⟩, if_pos hi]
    · rw [if_neg (by omega), if_neg hi]
      (repeat (first | rfl | rw [zm_s] | rw [zm_a _ _ (by omega)]))
  · intro k k1 k2 i
    unfold flR
    rw [if_neg (by omega)]
    rcases (show k = 1 ∨ k = 2 ∨ k = 3 ∨ k = 4 ∨ k = 5 ∨ k = 6 ∨ k = 7 by omega) with rfl | rfl | rfl | rfl | rfl | rfl | rfl <;> (repeat (first | rfl | rw [zm_s] | rw [zm_a _ _ (by omega)]))
  · intro i
    unfold flR
    rw [if_neg (by omega)]
    (repeat (first | rfl | rw [zm_s] | rw [zm_a _ _ (by omega)]))
end IN
