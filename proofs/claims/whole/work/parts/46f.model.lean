/-! THE REFERENCE'S CONSTRUCTOR -/
def ksX9 : List Sk := [kN, kN, kN, kN, .inr 0, kN, .inr 0, .inr 0, kN, .inr 0, kN, kN, kN, kN, kN, kN, kN, kN, kN, .inr 0, .inr 0, .inr 1, kN, .inr 1]
/-- the reference's state row as its constructor leaves it -/
def s9F (i : Int) : Int := if i = 0 then 100 else if i = 1 then 60 else if 323 ≤ i ∧ i < 355 ∧ (i - 323) % 2 = 0 then -1 else 0
def m9J (M : Mem) (h : Nat) (j : Int) : Mem := fun b i => if b = h + 1 ∧ 323 ≤ i ∧ i < 323 + 2 * j ∧ (i - 323) % 2 = 0 then -1 else M b i
theorem m9J_0 (M : Mem) (h : Nat) : m9J M h 0 = M := by
  funext b i
  unfold m9J
  rw [if_neg (by omega)]
theorem m9J_s (M : Mem) (h : Nat) (j : Int) (hj : 0 ≤ j) : up (m9J M h j) (h + 1) (323 + 2 * j) (-1) = m9J M h (j + 1) := by
  funext b i
  rw [up_e]
  unfold m9J
  by_cases q : b = h + 1 ∧ i = 323 + 2 * j
  · rw [if_pos q, if_pos (by omega)]
  · rw [if_neg q]
    by_cases q2 : b = h + 1 ∧ 323 ≤ i ∧ i < 323 + 2 * j ∧ (i - 323) % 2 = 0
    · rw [if_pos q2, if_pos (by omega)]
    · rw [if_neg q2, if_neg (by omega)]
section IR
variable {G : Gx} {l : Launch} {S : Sh} {mu : Mem} {la : Lam} {h : Nat}
theorem dX9_init_0 : decode cX9_init 0 = .ok (.aload_n 0, 1) := by decide +kernel
theorem dX9_init_1 : decode cX9_init 1 = .ok (.invokespecial 1, 3) := by decide +kernel
theorem dX9_init_4 : decode cX9_init 4 = .ok (.aload_n 0, 1) := by decide +kernel
theorem dX9_init_5 : decode cX9_init 5 = .ok (.sipush 1639, 3) := by decide +kernel
theorem dX9_init_8 : decode cX9_init 8 = .ok (.newarray .int, 2) := by decide +kernel
theorem dX9_init_10 : decode cX9_init 10 = .ok (.putfield 7, 3) := by decide +kernel
theorem dX9_init_13 : decode cX9_init 13 = .ok (.aload_n 0, 1) := by decide +kernel
theorem dX9_init_14 : decode cX9_init 14 = .ok (.sipush 6556, 3) := by decide +kernel
theorem dX9_init_17 : decode cX9_init 17 = .ok (.newarray .int, 2) := by decide +kernel
theorem dX9_init_19 : decode cX9_init 19 = .ok (.putfield 13, 3) := by decide +kernel
theorem dX9_init_22 : decode cX9_init 22 = .ok (.aload_n 0, 1) := by decide +kernel
theorem dX9_init_23 : decode cX9_init 23 = .ok (.sipush 1639, 3) := by decide +kernel
theorem dX9_init_26 : decode cX9_init 26 = .ok (.newarray .int, 2) := by decide +kernel
theorem dX9_init_28 : decode cX9_init 28 = .ok (.putfield 16, 3) := by decide +kernel
theorem dX9_init_31 : decode cX9_init 31 = .ok (.aload_n 0, 1) := by decide +kernel
theorem dX9_init_32 : decode cX9_init 32 = .ok (.sipush 1639, 3) := by decide +kernel
theorem dX9_init_35 : decode cX9_init 35 = .ok (.newarray .int, 2) := by decide +kernel
theorem dX9_init_37 : decode cX9_init 37 = .ok (.putfield 19, 3) := by decide +kernel
theorem dX9_init_40 : decode cX9_init 40 = .ok (.aload_n 0, 1) := by decide +kernel
theorem dX9_init_41 : decode cX9_init 41 = .ok (.sipush 150, 3) := by decide +kernel
theorem dX9_init_44 : decode cX9_init 44 = .ok (.newarray .int, 2) := by decide +kernel
theorem dX9_init_46 : decode cX9_init 46 = .ok (.putfield 22, 3) := by decide +kernel
theorem dX9_init_49 : decode cX9_init 49 = .ok (.aload_n 0, 1) := by decide +kernel
theorem dX9_init_50 : decode cX9_init 50 = .ok (.bipush 32, 2) := by decide +kernel
theorem dX9_init_52 : decode cX9_init 52 = .ok (.newarray .int, 2) := by decide +kernel
theorem dX9_init_54 : decode cX9_init 54 = .ok (.putfield 25, 3) := by decide +kernel
theorem dX9_init_57 : decode cX9_init 57 = .ok (.aload_n 0, 1) := by decide +kernel
theorem dX9_init_58 : decode cX9_init 58 = .ok (.bipush 32, 2) := by decide +kernel
theorem dX9_init_60 : decode cX9_init 60 = .ok (.newarray .int, 2) := by decide +kernel
theorem dX9_init_62 : decode cX9_init 62 = .ok (.putfield 28, 3) := by decide +kernel
theorem dX9_init_65 : decode cX9_init 65 = .ok (.aload_n 0, 1) := by decide +kernel
theorem dX9_init_66 : decode cX9_init 66 = .ok (.bipush 32, 2) := by decide +kernel
theorem dX9_init_68 : decode cX9_init 68 = .ok (.newarray .int, 2) := by decide +kernel
theorem dX9_init_70 : decode cX9_init 70 = .ok (.putfield 31, 3) := by decide +kernel
theorem dX9_init_73 : decode cX9_init 73 = .ok (.aload_n 0, 1) := by decide +kernel
theorem dX9_init_74 : decode cX9_init 74 = .ok (.bipush 32, 2) := by decide +kernel
theorem dX9_init_76 : decode cX9_init 76 = .ok (.newarray .int, 2) := by decide +kernel
theorem dX9_init_78 : decode cX9_init 78 = .ok (.putfield 34, 3) := by decide +kernel
theorem dX9_init_81 : decode cX9_init 81 = .ok (.aload_n 0, 1) := by decide +kernel
theorem dX9_init_82 : decode cX9_init 82 = .ok (.bipush 32, 2) := by decide +kernel
theorem dX9_init_84 : decode cX9_init 84 = .ok (.newarray .int, 2) := by decide +kernel
theorem dX9_init_86 : decode cX9_init 86 = .ok (.putfield 37, 3) := by decide +kernel
theorem dX9_init_89 : decode cX9_init 89 = .ok (.aload_n 0, 1) := by decide +kernel
theorem dX9_init_90 : decode cX9_init 90 = .ok (.bipush 32, 2) := by decide +kernel
theorem dX9_init_92 : decode cX9_init 92 = .ok (.newarray .int, 2) := by decide +kernel
theorem dX9_init_94 : decode cX9_init 94 = .ok (.putfield 40, 3) := by decide +kernel
theorem dX9_init_97 : decode cX9_init 97 = .ok (.aload_n 0, 1) := by decide +kernel
theorem dX9_init_98 : decode cX9_init 98 = .ok (.bipush 32, 2) := by decide +kernel
theorem dX9_init_100 : decode cX9_init 100 = .ok (.newarray .int, 2) := by decide +kernel
theorem dX9_init_102 : decode cX9_init 102 = .ok (.putfield 43, 3) := by decide +kernel
theorem dX9_init_105 : decode cX9_init 105 = .ok (.aload_n 0, 1) := by decide +kernel
theorem dX9_init_106 : decode cX9_init 106 = .ok (.bipush 32, 2) := by decide +kernel
theorem dX9_init_108 : decode cX9_init 108 = .ok (.newarray .int, 2) := by decide +kernel
theorem dX9_init_110 : decode cX9_init 110 = .ok (.putfield 46, 3) := by decide +kernel
theorem dX9_init_113 : decode cX9_init 113 = .ok (.aload_n 0, 1) := by decide +kernel
theorem dX9_init_114 : decode cX9_init 114 = .ok (.bipush 16, 2) := by decide +kernel
theorem dX9_init_116 : decode cX9_init 116 = .ok (.newarray .int, 2) := by decide +kernel
theorem dX9_init_118 : decode cX9_init 118 = .ok (.putfield 49, 3) := by decide +kernel
theorem dX9_init_121 : decode cX9_init 121 = .ok (.aload_n 0, 1) := by decide +kernel
theorem dX9_init_122 : decode cX9_init 122 = .ok (.bipush 16, 2) := by decide +kernel
theorem dX9_init_124 : decode cX9_init 124 = .ok (.newarray .int, 2) := by decide +kernel
theorem dX9_init_126 : decode cX9_init 126 = .ok (.putfield 52, 3) := by decide +kernel
theorem dX9_init_129 : decode cX9_init 129 = .ok (.aload_n 0, 1) := by decide +kernel
theorem dX9_init_130 : decode cX9_init 130 = .ok (.iconst 5, 1) := by decide +kernel
theorem dX9_init_131 : decode cX9_init 131 = .ok (.newarray .int, 2) := by decide +kernel
theorem dX9_init_133 : decode cX9_init 133 = .ok (.putfield 55, 3) := by decide +kernel
theorem dX9_init_136 : decode cX9_init 136 = .ok (.aload_n 0, 1) := by decide +kernel
theorem dX9_init_137 : decode cX9_init 137 = .ok (.getfield 7, 3) := by decide +kernel
theorem dX9_init_140 : decode cX9_init 140 = .ok (.iconst 0, 1) := by decide +kernel
theorem dX9_init_141 : decode cX9_init 141 = .ok (.bipush 100, 2) := by decide +kernel
theorem dX9_init_143 : decode cX9_init 143 = .ok (.iastore, 1) := by decide +kernel
theorem dX9_init_144 : decode cX9_init 144 = .ok (.aload_n 0, 1) := by decide +kernel
theorem dX9_init_145 : decode cX9_init 145 = .ok (.getfield 7, 3) := by decide +kernel
theorem dX9_init_148 : decode cX9_init 148 = .ok (.iconst 1, 1) := by decide +kernel
theorem dX9_init_149 : decode cX9_init 149 = .ok (.bipush 60, 2) := by decide +kernel
theorem dX9_init_151 : decode cX9_init 151 = .ok (.iastore, 1) := by decide +kernel
theorem dX9_init_152 : decode cX9_init 152 = .ok (.iconst 0, 1) := by decide +kernel
theorem dX9_init_153 : decode cX9_init 153 = .ok (.istore_n 1, 1) := by decide +kernel
theorem dX9_init_154 : decode cX9_init 154 = .ok (.iload_n 1, 1) := by decide +kernel
theorem dX9_init_155 : decode cX9_init 155 = .ok (.bipush 16, 2) := by decide +kernel
theorem dX9_init_157 : decode cX9_init 157 = .ok (.if_icmp .ge 22, 3) := by decide +kernel
theorem dX9_init_160 : decode cX9_init 160 = .ok (.aload_n 0, 1) := by decide +kernel
theorem dX9_init_161 : decode cX9_init 161 = .ok (.getfield 7, 3) := by decide +kernel
theorem dX9_init_164 : decode cX9_init 164 = .ok (.sipush 323, 3) := by decide +kernel
theorem dX9_init_167 : decode cX9_init 167 = .ok (.iconst 2, 1) := by decide +kernel
theorem dX9_init_168 : decode cX9_init 168 = .ok (.iload_n 1, 1) := by decide +kernel
theorem dX9_init_169 : decode cX9_init 169 = .ok (.imul, 1) := by decide +kernel
theorem dX9_init_170 : decode cX9_init 170 = .ok (.iadd, 1) := by decide +kernel
theorem dX9_init_171 : decode cX9_init 171 = .ok (.iconst (-1), 1) := by decide +kernel
theorem dX9_init_172 : decode cX9_init 172 = .ok (.iastore, 1) := by decide +kernel
theorem dX9_init_173 : decode cX9_init 173 = .ok (.iinc 1 1, 3) := by decide +kernel
theorem dX9_init_176 : decode cX9_init 176 = .ok (.goto (-22), 3) := by decide +kernel
theorem dX9_init_179 : decode cX9_init 179 = .ok (.return_, 1) := by decide +kernel
theorem oi1_X9_init : Cond.methodLink RX9 1 objectInit ∈ wsX9_init := by decide +kernel
theorem oi2_X9_init : Cond.instanceMethod objectInit ∈ wsX9_init := by decide +kernel
theorem oi3_X9_init : Cond.code objectInit ⟨#[0xb1]⟩ 1 none ∈ wsX9_init := by decide +kernel
theorem oi4_X9_init : Cond.arrayClass .int ∈ wsX9_init := by decide +kernel
theorem hin_X9_init_X9 : ∀ w ∈ wsX90, w ∈ wsX9_init := by decide +kernel
theorem lk_X9_init_7 : Cond.fieldLink RX9 7 RX9 "s" "[I" ∈ wsX9_init := by decide +kernel
theorem lk_X9_init_13 : Cond.fieldLink RX9 13 RX9 "past" "[I" ∈ wsX9_init := by decide +kernel
theorem lk_X9_init_16 : Cond.fieldLink RX9 16 RX9 "aside" "[I" ∈ wsX9_init := by decide +kernel
theorem lk_X9_init_19 : Cond.fieldLink RX9 19 RX9 "kept" "[I" ∈ wsX9_init := by decide +kernel
theorem lk_X9_init_22 : Cond.fieldLink RX9 22 RX9 "text" "[I" ∈ wsX9_init := by decide +kernel
theorem lk_X9_init_25 : Cond.fieldLink RX9 25 RX9 "queue" "[I" ∈ wsX9_init := by decide +kernel
theorem lk_X9_init_28 : Cond.fieldLink RX9 28 RX9 "leastW" "[I" ∈ wsX9_init := by decide +kernel
theorem lk_X9_init_31 : Cond.fieldLink RX9 31 RX9 "leastH" "[I" ∈ wsX9_init := by decide +kernel
theorem lk_X9_init_34 : Cond.fieldLink RX9 34 RX9 "boxX" "[I" ∈ wsX9_init := by decide +kernel
theorem lk_X9_init_37 : Cond.fieldLink RX9 37 RX9 "boxY" "[I" ∈ wsX9_init := by decide +kernel
theorem lk_X9_init_40 : Cond.fieldLink RX9 40 RX9 "boxW" "[I" ∈ wsX9_init := by decide +kernel
theorem lk_X9_init_43 : Cond.fieldLink RX9 43 RX9 "boxH" "[I" ∈ wsX9_init := by decide +kernel
theorem lk_X9_init_46 : Cond.fieldLink RX9 46 RX9 "tight" "[I" ∈ wsX9_init := by decide +kernel
theorem lk_X9_init_49 : Cond.fieldLink RX9 49 RX9 "share" "[I" ∈ wsX9_init := by decide +kernel
theorem lk_X9_init_52 : Cond.fieldLink RX9 52 RX9 "fixed" "[I" ∈ wsX9_init := by decide +kernel
theorem lk_X9_init_55 : Cond.fieldLink RX9 55 RX9 "numbers" "[I" ∈ wsX9_init := by decide +kernel
set_option maxHeartbeats 4000000 in
theorem i_X9 (hG : GP G) (hx : hasS S h (.inr (.inr (7, ksX9)))) : Ct G l yX9_init wsX9_init 1 16 11916 [.ref h] S (h + 1) mu la (Nw h (h + 1) 16 S mu la (fun S' mu' la' => MoS S' h ∧ (∀ i, mu' (h + 1) i = s9F i) ∧ (∀ k, 2 ≤ k → k ≤ 16 → ∀ i, mu' (h + k) i = 0) ∧ (∀ i, mu' h i = mu h i) ∧ ∀ i, la' h i = la h i)) := by
  have hx0 : h ∈ S.1 := hx.1
  refine Ct.ofI (cc := cX9_init) (nL := 2) (ret := none) [some (.ref h), none] hG (by decide) rfl (Nat.le_of_ble_eq_true rfl) rfl ?_
  rintro X rfl rfl C hnm0 hcl hsl E
  have loop : ∀ (d : Nat) (j : Int) (S9 : Sh) (M : Mem) (la9 : Lam), j + d = 16 → 0 ≤ j → hasS S9 h (.inr (.inr (7, [.inl (.ref (h + 1)), .inl (.ref (h + 2)), .inl (.ref (h + 3)), .inl (.ref (h + 4)), .inr 0, .inl (.ref (h + 5)), .inr 0, .inr 0, .inl (.ref (h + 6)), .inr 0, .inl (.ref (h + 7)), .inl (.ref (h + 8)), .inl (.ref (h + 9)), .inl (.ref (h + 10)), .inl (.ref (h + 11)), .inl (.ref (h + 12)), .inl (.ref (h + 13)), .inl (.ref (h + 14)), .inl (.ref (h + 15)), .inr 0, .inr 0, .inr 1, .inl (.ref (h + 16)), .inr 1]))) → hasS S9 (h + 1) (.inl (0, 1639)) → Nw h (h + 1) 16 S mu la (fun S' mu' la' => MoS S' h ∧ (∀ i, mu' (h + 1) i = s9F i) ∧ (∀ k, 2 ≤ k → k ≤ 16 → ∀ i, mu' (h + k) i = 0) ∧ (∀ i, mu' h i = mu h i) ∧ ∀ i, la' h i = la h i) none S9 (h + 17) (m9J M h 16) la9 → V X 154 [some (.ref h), some (.int (I32 j))] [] S9 (h + 17) (m9J M h j) la9 16 11916 := by
    intro d
    induction d with
    | zero =>
      intro j S9 M la9 h1 h2 h3 h4 h5
      have hj : j = 16 := by omega
      subst hj
      refine V_iload_n C dX9_init_154 rfl ?_
      refine V_bipush C dX9_init_155 (by decide +kernel) ?_
      refine V_icmp_ge C 179 dX9_init_157 (by decide) (by omega) (by omega) (fun _ => ?_) (fun z => absurd z (by omega))
      refine V_return C E dX9_init_179 (by omega) (by omega) ?_
      exact h5
    | succ d ih =>
      intro j S9 M la9 h1 h2 h3 h4 h5
      refine V_iload_n C dX9_init_154 rfl ?_
      refine V_bipush C dX9_init_155 (by decide +kernel) ?_
      refine V_icmp_ge C 179 dX9_init_157 (by decide) (by omega) (by omega) (fun z => absurd z (by omega)) (fun _ => ?_)
      refine V_aload_n C dX9_init_160 rfl ?_
      refine V_getR C 0 dX9_init_161 h3 rfl hin_X9_init_X9 (by decide) lk_X9_init_7 rfl rfl ?_
      refine V_sipush C dX9_init_164 (by decide +kernel) ?_
      refine V_iconst C dX9_init_167 ?_
      refine V_iload_n C dX9_init_168 rfl ?_
      refine V_imul C dX9_init_169 ?_
      refine V_iadd C dX9_init_170 ?_
      refine V_iconst C dX9_init_171 ?_
      refine V_iast C dX9_init_172 h4 (by decide) (by omega) ?_
      rw [m9J_s _ _ _ h2]
      refine V_iinc C dX9_init_173 rfl rfl (by decide) ?_
      refine V_goto C 154 dX9_init_176 (by decide) ?_
      exact ih (j + 1) S9 M la9 (by omega) (by omega) h3 h4 h5
  refine V_aload_n C dX9_init_0 rfl ?_
  refine V_objInit C dX9_init_1 oi1_X9_init oi2_X9_init oi3_X9_init (by decide) (by decide) ?_
  refine V_aload_n C dX9_init_4 rfl ?_
  refine V_sipush C dX9_init_5 (by decide +kernel) ?_
  refine V_newa C 1639 dX9_init_8 oi4_X9_init rfl (by decide) ⟨by omega, by omega⟩ ?_
  refine V_putO C hnm0 0 dX9_init_10 (by repeat (first | with_reducible exact hx | with_reducible exact hx0 | exact hx.1 | with_reducible exact hasS_new _ _ _ | with_reducible refine hasS_reM ?_ | with_reducible refine memG ?_ | with_reducible refine memR ?_ | with_reducible refine hasS_grow ?_ (by omega) | with_reducible refine hasS_re ?_ (by omega) | exact hasS_new _ _ _ | refine hasS_reM ?_)) rfl hin_X9_init_X9 tyX9 tyX9_ok nmX9 (by decide) lk_X9_init_7 rfl rfl (tyX9_ok 0 (by decide)) rfl rfl (Nat.le_of_ble_eq_true rfl) ?_
  refine V_aload_n C dX9_init_13 rfl ?_
  refine V_sipush C dX9_init_14 (by decide +kernel) ?_
  refine V_newa C 6556 dX9_init_17 oi4_X9_init rfl (by decide) ⟨by omega, by omega⟩ ?_
  refine V_putO C hnm0 1 dX9_init_19 (by repeat (first | with_reducible exact hx | with_reducible exact hx0 | exact hx.1 | with_reducible exact hasS_new _ _ _ | with_reducible refine hasS_reM ?_ | with_reducible refine memG ?_ | with_reducible refine memR ?_ | with_reducible refine hasS_grow ?_ (by omega) | with_reducible refine hasS_re ?_ (by omega) | exact hasS_new _ _ _ | refine hasS_reM ?_)) rfl hin_X9_init_X9 tyX9 tyX9_ok nmX9 (by decide) lk_X9_init_13 rfl rfl (tyX9_ok 1 (by decide)) rfl rfl (Nat.le_of_ble_eq_true rfl) ?_
  refine V_aload_n C dX9_init_22 rfl ?_
  refine V_sipush C dX9_init_23 (by decide +kernel) ?_
  refine V_newa C 1639 dX9_init_26 oi4_X9_init rfl (by decide) ⟨by omega, by omega⟩ ?_
  refine V_putO C hnm0 2 dX9_init_28 (by repeat (first | with_reducible exact hx | with_reducible exact hx0 | exact hx.1 | with_reducible exact hasS_new _ _ _ | with_reducible refine hasS_reM ?_ | with_reducible refine memG ?_ | with_reducible refine memR ?_ | with_reducible refine hasS_grow ?_ (by omega) | with_reducible refine hasS_re ?_ (by omega) | exact hasS_new _ _ _ | refine hasS_reM ?_)) rfl hin_X9_init_X9 tyX9 tyX9_ok nmX9 (by decide) lk_X9_init_16 rfl rfl (tyX9_ok 2 (by decide)) rfl rfl (Nat.le_of_ble_eq_true rfl) ?_
  refine V_aload_n C dX9_init_31 rfl ?_
  refine V_sipush C dX9_init_32 (by decide +kernel) ?_
  refine V_newa C 1639 dX9_init_35 oi4_X9_init rfl (by decide) ⟨by omega, by omega⟩ ?_
  refine V_putO C hnm0 3 dX9_init_37 (by repeat (first | with_reducible exact hx | with_reducible exact hx0 | exact hx.1 | with_reducible exact hasS_new _ _ _ | with_reducible refine hasS_reM ?_ | with_reducible refine memG ?_ | with_reducible refine memR ?_ | with_reducible refine hasS_grow ?_ (by omega) | with_reducible refine hasS_re ?_ (by omega) | exact hasS_new _ _ _ | refine hasS_reM ?_)) rfl hin_X9_init_X9 tyX9 tyX9_ok nmX9 (by decide) lk_X9_init_19 rfl rfl (tyX9_ok 3 (by decide)) rfl rfl (Nat.le_of_ble_eq_true rfl) ?_
  refine V_aload_n C dX9_init_40 rfl ?_
  refine V_sipush C dX9_init_41 (by decide +kernel) ?_
  refine V_newa C 150 dX9_init_44 oi4_X9_init rfl (by decide) ⟨by omega, by omega⟩ ?_
  refine V_putO C hnm0 5 dX9_init_46 (by repeat (first | with_reducible exact hx | with_reducible exact hx0 | exact hx.1 | with_reducible exact hasS_new _ _ _ | with_reducible refine hasS_reM ?_ | with_reducible refine memG ?_ | with_reducible refine memR ?_ | with_reducible refine hasS_grow ?_ (by omega) | with_reducible refine hasS_re ?_ (by omega) | exact hasS_new _ _ _ | refine hasS_reM ?_)) rfl hin_X9_init_X9 tyX9 tyX9_ok nmX9 (by decide) lk_X9_init_22 rfl rfl (tyX9_ok 5 (by decide)) rfl rfl (Nat.le_of_ble_eq_true rfl) ?_
  refine V_aload_n C dX9_init_49 rfl ?_
  refine V_bipush C dX9_init_50 (by decide +kernel) ?_
  refine V_newa C 32 dX9_init_52 oi4_X9_init rfl (by decide) ⟨by omega, by omega⟩ ?_
  refine V_putO C hnm0 8 dX9_init_54 (by repeat (first | with_reducible exact hx | with_reducible exact hx0 | exact hx.1 | with_reducible exact hasS_new _ _ _ | with_reducible refine hasS_reM ?_ | with_reducible refine memG ?_ | with_reducible refine memR ?_ | with_reducible refine hasS_grow ?_ (by omega) | with_reducible refine hasS_re ?_ (by omega) | exact hasS_new _ _ _ | refine hasS_reM ?_)) rfl hin_X9_init_X9 tyX9 tyX9_ok nmX9 (by decide) lk_X9_init_25 rfl rfl (tyX9_ok 8 (by decide)) rfl rfl (Nat.le_of_ble_eq_true rfl) ?_
  refine V_aload_n C dX9_init_57 rfl ?_
  refine V_bipush C dX9_init_58 (by decide +kernel) ?_
  refine V_newa C 32 dX9_init_60 oi4_X9_init rfl (by decide) ⟨by omega, by omega⟩ ?_
  refine V_putO C hnm0 10 dX9_init_62 (by repeat (first | with_reducible exact hx | with_reducible exact hx0 | exact hx.1 | with_reducible exact hasS_new _ _ _ | with_reducible refine hasS_reM ?_ | with_reducible refine memG ?_ | with_reducible refine memR ?_ | with_reducible refine hasS_grow ?_ (by omega) | with_reducible refine hasS_re ?_ (by omega) | exact hasS_new _ _ _ | refine hasS_reM ?_)) rfl hin_X9_init_X9 tyX9 tyX9_ok nmX9 (by decide) lk_X9_init_28 rfl rfl (tyX9_ok 10 (by decide)) rfl rfl (Nat.le_of_ble_eq_true rfl) ?_
  refine V_aload_n C dX9_init_65 rfl ?_
  refine V_bipush C dX9_init_66 (by decide +kernel) ?_
  refine V_newa C 32 dX9_init_68 oi4_X9_init rfl (by decide) ⟨by omega, by omega⟩ ?_
  refine V_putO C hnm0 11 dX9_init_70 (by repeat (first | with_reducible exact hx | with_reducible exact hx0 | exact hx.1 | with_reducible exact hasS_new _ _ _ | with_reducible refine hasS_reM ?_ | with_reducible refine memG ?_ | with_reducible refine memR ?_ | with_reducible refine hasS_grow ?_ (by omega) | with_reducible refine hasS_re ?_ (by omega) | exact hasS_new _ _ _ | refine hasS_reM ?_)) rfl hin_X9_init_X9 tyX9 tyX9_ok nmX9 (by decide) lk_X9_init_31 rfl rfl (tyX9_ok 11 (by decide)) rfl rfl (Nat.le_of_ble_eq_true rfl) ?_
  refine V_aload_n C dX9_init_73 rfl ?_
  refine V_bipush C dX9_init_74 (by decide +kernel) ?_
  refine V_newa C 32 dX9_init_76 oi4_X9_init rfl (by decide) ⟨by omega, by omega⟩ ?_
  refine V_putO C hnm0 12 dX9_init_78 (by repeat (first | with_reducible exact hx | with_reducible exact hx0 | exact hx.1 | with_reducible exact hasS_new _ _ _ | with_reducible refine hasS_reM ?_ | with_reducible refine memG ?_ | with_reducible refine memR ?_ | with_reducible refine hasS_grow ?_ (by omega) | with_reducible refine hasS_re ?_ (by omega) | exact hasS_new _ _ _ | refine hasS_reM ?_)) rfl hin_X9_init_X9 tyX9 tyX9_ok nmX9 (by decide) lk_X9_init_34 rfl rfl (tyX9_ok 12 (by decide)) rfl rfl (Nat.le_of_ble_eq_true rfl) ?_
  refine V_aload_n C dX9_init_81 rfl ?_
  refine V_bipush C dX9_init_82 (by decide +kernel) ?_
  refine V_newa C 32 dX9_init_84 oi4_X9_init rfl (by decide) ⟨by omega, by omega⟩ ?_
  refine V_putO C hnm0 13 dX9_init_86 (by repeat (first | with_reducible exact hx | with_reducible exact hx0 | exact hx.1 | with_reducible exact hasS_new _ _ _ | with_reducible refine hasS_reM ?_ | with_reducible refine memG ?_ | with_reducible refine memR ?_ | with_reducible refine hasS_grow ?_ (by omega) | with_reducible refine hasS_re ?_ (by omega) | exact hasS_new _ _ _ | refine hasS_reM ?_)) rfl hin_X9_init_X9 tyX9 tyX9_ok nmX9 (by decide) lk_X9_init_37 rfl rfl (tyX9_ok 13 (by decide)) rfl rfl (Nat.le_of_ble_eq_true rfl) ?_
  refine V_aload_n C dX9_init_89 rfl ?_
  refine V_bipush C dX9_init_90 (by decide +kernel) ?_
  refine V_newa C 32 dX9_init_92 oi4_X9_init rfl (by decide) ⟨by omega, by omega⟩ ?_
  refine V_putO C hnm0 14 dX9_init_94 (by repeat (first | with_reducible exact hx | with_reducible exact hx0 | exact hx.1 | with_reducible exact hasS_new _ _ _ | with_reducible refine hasS_reM ?_ | with_reducible refine memG ?_ | with_reducible refine memR ?_ | with_reducible refine hasS_grow ?_ (by omega) | with_reducible refine hasS_re ?_ (by omega) | exact hasS_new _ _ _ | refine hasS_reM ?_)) rfl hin_X9_init_X9 tyX9 tyX9_ok nmX9 (by decide) lk_X9_init_40 rfl rfl (tyX9_ok 14 (by decide)) rfl rfl (Nat.le_of_ble_eq_true rfl) ?_
  refine V_aload_n C dX9_init_97 rfl ?_
  refine V_bipush C dX9_init_98 (by decide +kernel) ?_
  refine V_newa C 32 dX9_init_100 oi4_X9_init rfl (by decide) ⟨by omega, by omega⟩ ?_
  refine V_putO C hnm0 15 dX9_init_102 (by repeat (first | with_reducible exact hx | with_reducible exact hx0 | exact hx.1 | with_reducible exact hasS_new _ _ _ | with_reducible refine hasS_reM ?_ | with_reducible refine memG ?_ | with_reducible refine memR ?_ | with_reducible refine hasS_grow ?_ (by omega) | with_reducible refine hasS_re ?_ (by omega) | exact hasS_new _ _ _ | refine hasS_reM ?_)) rfl hin_X9_init_X9 tyX9 tyX9_ok nmX9 (by decide) lk_X9_init_43 rfl rfl (tyX9_ok 15 (by decide)) rfl rfl (Nat.le_of_ble_eq_true rfl) ?_
  refine V_aload_n C dX9_init_105 rfl ?_
  refine V_bipush C dX9_init_106 (by decide +kernel) ?_
  refine V_newa C 32 dX9_init_108 oi4_X9_init rfl (by decide) ⟨by omega, by omega⟩ ?_
  refine V_putO C hnm0 16 dX9_init_110 (by repeat (first | with_reducible exact hx | with_reducible exact hx0 | exact hx.1 | with_reducible exact hasS_new _ _ _ | with_reducible refine hasS_reM ?_ | with_reducible refine memG ?_ | with_reducible refine memR ?_ | with_reducible refine hasS_grow ?_ (by omega) | with_reducible refine hasS_re ?_ (by omega) | exact hasS_new _ _ _ | refine hasS_reM ?_)) rfl hin_X9_init_X9 tyX9 tyX9_ok nmX9 (by decide) lk_X9_init_46 rfl rfl (tyX9_ok 16 (by decide)) rfl rfl (Nat.le_of_ble_eq_true rfl) ?_
  refine V_aload_n C dX9_init_113 rfl ?_
  refine V_bipush C dX9_init_114 (by decide +kernel) ?_
  refine V_newa C 16 dX9_init_116 oi4_X9_init rfl (by decide) ⟨by omega, by omega⟩ ?_
  refine V_putO C hnm0 17 dX9_init_118 (by repeat (first | with_reducible exact hx | with_reducible exact hx0 | exact hx.1 | with_reducible exact hasS_new _ _ _ | with_reducible refine hasS_reM ?_ | with_reducible refine memG ?_ | with_reducible refine memR ?_ | with_reducible refine hasS_grow ?_ (by omega) | with_reducible refine hasS_re ?_ (by omega) | exact hasS_new _ _ _ | refine hasS_reM ?_)) rfl hin_X9_init_X9 tyX9 tyX9_ok nmX9 (by decide) lk_X9_init_49 rfl rfl (tyX9_ok 17 (by decide)) rfl rfl (Nat.le_of_ble_eq_true rfl) ?_
  refine V_aload_n C dX9_init_121 rfl ?_
  refine V_bipush C dX9_init_122 (by decide +kernel) ?_
  refine V_newa C 16 dX9_init_124 oi4_X9_init rfl (by decide) ⟨by omega, by omega⟩ ?_
  refine V_putO C hnm0 18 dX9_init_126 (by repeat (first | with_reducible exact hx | with_reducible exact hx0 | exact hx.1 | with_reducible exact hasS_new _ _ _ | with_reducible refine hasS_reM ?_ | with_reducible refine memG ?_ | with_reducible refine memR ?_ | with_reducible refine hasS_grow ?_ (by omega) | with_reducible refine hasS_re ?_ (by omega) | exact hasS_new _ _ _ | refine hasS_reM ?_)) rfl hin_X9_init_X9 tyX9 tyX9_ok nmX9 (by decide) lk_X9_init_52 rfl rfl (tyX9_ok 18 (by decide)) rfl rfl (Nat.le_of_ble_eq_true rfl) ?_
  refine V_aload_n C dX9_init_129 rfl ?_
  refine V_iconst C dX9_init_130 ?_
  refine V_newa C 5 dX9_init_131 oi4_X9_init rfl (by decide) ⟨by omega, by omega⟩ ?_
  refine V_putO C hnm0 22 dX9_init_133 (by repeat (first | with_reducible exact hx | with_reducible exact hx0 | exact hx.1 | with_reducible exact hasS_new _ _ _ | with_reducible refine hasS_reM ?_ | with_reducible refine memG ?_ | with_reducible refine memR ?_ | with_reducible refine hasS_grow ?_ (by omega) | with_reducible refine hasS_re ?_ (by omega) | exact hasS_new _ _ _ | refine hasS_reM ?_)) rfl hin_X9_init_X9 tyX9 tyX9_ok nmX9 (by decide) lk_X9_init_55 rfl rfl (tyX9_ok 22 (by decide)) rfl rfl (Nat.le_of_ble_eq_true rfl) ?_
  refine V_aload_n C dX9_init_136 rfl ?_
  refine V_getR C 0 dX9_init_137 (by repeat (first | with_reducible exact hx | with_reducible exact hx0 | exact hx.1 | with_reducible exact hasS_new _ _ _ | with_reducible refine hasS_reM ?_ | with_reducible refine memG ?_ | with_reducible refine memR ?_ | with_reducible refine hasS_grow ?_ (by omega) | with_reducible refine hasS_re ?_ (by omega) | exact hasS_new _ _ _ | refine hasS_reM ?_)) rfl hin_X9_init_X9 (by decide) lk_X9_init_7 rfl rfl ?_
  refine V_iconst C dX9_init_140 ?_
  refine V_bipush C dX9_init_141 (by decide +kernel) ?_
  refine V_iast C dX9_init_143 (by repeat (first | with_reducible exact hx | with_reducible exact hx0 | with_reducible exact hasS_new _ _ _ | with_reducible refine hasS_reM ?_ | with_reducible refine memG ?_ | with_reducible refine memR ?_ | with_reducible refine hasS_grow ?_ (by omega) | with_reducible refine hasS_re ?_ (by omega) | exact hasS_new _ _ _ | refine hasS_reM ?_)) (by decide) (by omega) ?_
  refine V_aload_n C dX9_init_144 rfl ?_
  refine V_getR C 0 dX9_init_145 (by repeat (first | with_reducible exact hx | with_reducible exact hx0 | exact hx.1 | with_reducible exact hasS_new _ _ _ | with_reducible refine hasS_reM ?_ | with_reducible refine memG ?_ | with_reducible refine memR ?_ | with_reducible refine hasS_grow ?_ (by omega) | with_reducible refine hasS_re ?_ (by omega) | exact hasS_new _ _ _ | refine hasS_reM ?_)) rfl hin_X9_init_X9 (by decide) lk_X9_init_7 rfl rfl ?_
  refine V_iconst C dX9_init_148 ?_
  refine V_bipush C dX9_init_149 (by decide +kernel) ?_
  refine V_iast C dX9_init_151 (by repeat (first | with_reducible exact hx | with_reducible exact hx0 | with_reducible exact hasS_new _ _ _ | with_reducible refine hasS_reM ?_ | with_reducible refine memG ?_ | with_reducible refine memR ?_ | with_reducible refine hasS_grow ?_ (by omega) | with_reducible refine hasS_re ?_ (by omega) | exact hasS_new _ _ _ | refine hasS_reM ?_)) (by decide) (by omega) ?_
  refine V_iconst C dX9_init_152 ?_
  refine V_istore_n C dX9_init_153 rfl (by decide) ?_
  rw [← m9J_0 (up (up _ _ _ _) _ _ _) h]
  refine loop 16 0 _ _ _ (by omega) (by omega) (by repeat (first | with_reducible exact hx | with_reducible exact hx0 | with_reducible exact hasS_new _ _ _ | with_reducible refine hasS_reM ?_ | with_reducible refine memG ?_ | with_reducible refine memR ?_ | with_reducible refine hasS_grow ?_ (by omega) | with_reducible refine hasS_re ?_ (by omega) | exact hasS_new _ _ _ | refine hasS_reM ?_)) (by repeat (first | with_reducible exact hx | with_reducible exact hx0 | with_reducible exact hasS_new _ _ _ | with_reducible refine hasS_reM ?_ | with_reducible refine memG ?_ | with_reducible refine memR ?_ | with_reducible refine hasS_grow ?_ (by omega) | with_reducible refine hasS_re ?_ (by omega) | exact hasS_new _ _ _ | refine hasS_reM ?_)) ⟨rfl, rfl, ?_, ?_, ?_, ?_, ?_, ?_, ?_⟩
  · intro b x hb hne hxb
    repeat (first | exact hxb | refine hasS_re ?_ (by omega) | refine hasS_grow ?_ (by omega))
  · intro b hb hne
    constructor <;> intro i
    · unfold m9J
      rw [if_neg (by omega), up_a _ _ _ _ (by omega), up_a _ _ _ _ (by omega)]
      repeat (first | rfl | rw [zm_a _ _ (by omega)])
    · repeat (first | rfl | rw [zl_a _ _ (by omega)])
  · refine ⟨(by repeat (first | with_reducible exact hx | with_reducible exact hx0 | with_reducible exact hasS_new _ _ _ | with_reducible refine hasS_reM ?_ | with_reducible refine memG ?_ | with_reducible refine memR ?_ | with_reducible refine hasS_grow ?_ (by omega) | with_reducible refine hasS_re ?_ (by omega) | exact hasS_new _ _ _ | refine hasS_reM ?_)), (by repeat (first | with_reducible exact hx | with_reducible exact hx0 | with_reducible exact hasS_new _ _ _ | with_reducible refine hasS_reM ?_ | with_reducible refine memG ?_ | with_reducible refine memR ?_ | with_reducible refine hasS_grow ?_ (by omega) | with_reducible refine hasS_re ?_ (by omega) | exact hasS_new _ _ _ | refine hasS_reM ?_)), (by repeat (first | with_reducible exact hx | with_reducible exact hx0 | with_reducible exact hasS_new _ _ _ | with_reducible refine hasS_reM ?_ | with_reducible refine memG ?_ | with_reducible refine memR ?_ | with_reducible refine hasS_grow ?_ (by omega) | with_reducible refine hasS_re ?_ (by omega) | exact hasS_new _ _ _ | refine hasS_reM ?_)), (by repeat (first | with_reducible exact hx | with_reducible exact hx0 | with_reducible exact hasS_new _ _ _ | with_reducible refine hasS_reM ?_ | with_reducible refine memG ?_ | with_reducible refine memR ?_ | with_reducible refine hasS_grow ?_ (by omega) | with_reducible refine hasS_re ?_ (by omega) | exact hasS_new _ _ _ | refine hasS_reM ?_)), (by repeat (first | with_reducible exact hx | with_reducible exact hx0 | with_reducible exact hasS_new _ _ _ | with_reducible refine hasS_reM ?_ | with_reducible refine memG ?_ | with_reducible refine memR ?_ | with_reducible refine hasS_grow ?_ (by omega) | with_reducible refine hasS_re ?_ (by omega) | exact hasS_new _ _ _ | refine hasS_reM ?_)), (by repeat (first | with_reducible exact hx | with_reducible exact hx0 | with_reducible exact hasS_new _ _ _ | with_reducible refine hasS_reM ?_ | with_reducible refine memG ?_ | with_reducible refine memR ?_ | with_reducible refine hasS_grow ?_ (by omega) | with_reducible refine hasS_re ?_ (by omega) | exact hasS_new _ _ _ | refine hasS_reM ?_)), fun k hk => ?_, (by repeat (first | with_reducible exact hx | with_reducible exact hx0 | with_reducible exact hasS_new _ _ _ | with_reducible refine hasS_reM ?_ | with_reducible refine memG ?_ | with_reducible refine memR ?_ | with_reducible refine hasS_grow ?_ (by omega) | with_reducible refine hasS_re ?_ (by omega) | exact hasS_new _ _ _ | refine hasS_reM ?_)), (by repeat (first | with_reducible exact hx | with_reducible exact hx0 | with_reducible exact hasS_new _ _ _ | with_reducible refine hasS_reM ?_ | with_reducible refine memG ?_ | with_reducible refine memR ?_ | with_reducible refine hasS_grow ?_ (by omega) | with_reducible refine hasS_re ?_ (by omega) | exact hasS_new _ _ _ | refine hasS_reM ?_)), (by repeat (first | with_reducible exact hx | with_reducible exact hx0 | with_reducible exact hasS_new _ _ _ | with_reducible refine hasS_reM ?_ | with_reducible refine memG ?_ | with_reducible refine memR ?_ | with_reducible refine hasS_grow ?_ (by omega) | with_reducible refine hasS_re ?_ (by omega) | exact hasS_new _ _ _ | refine hasS_reM ?_))⟩
    rcases (show k = 6 ∨ k = 7 ∨ k = 8 ∨ k = 9 ∨ k = 10 ∨ k = 11 ∨ k = 12 ∨ k = 13 by omega) with rfl | rfl | rfl | rfl | rfl | rfl | rfl | rfl <;> exact (by repeat (first | with_reducible exact hx | with_reducible exact hx0 | with_reducible exact hasS_new _ _ _ | with_reducible refine hasS_reM ?_ | with_reducible refine memG ?_ | with_reducible refine memR ?_ | with_reducible refine hasS_grow ?_ (by omega) | with_reducible refine hasS_re ?_ (by omega) | exact hasS_new _ _ _ | refine hasS_reM ?_))
  · intro i
    unfold m9J s9F
    by_cases q : 323 ≤ i ∧ i < 355 ∧ (i - 323) % 2 = 0
    · rw [if_pos (by omega), if_neg (by omega), if_neg (by omega), if_pos q]
    · rw [if_neg (by omega), up_e, up_e]
      by_cases q1 : i = 1
      · rw [if_pos ⟨rfl, q1⟩, if_neg (by omega), if_pos q1]
      · rw [if_neg (by omega)]
        by_cases q0 : i = 0
        · rw [if_pos ⟨rfl, q0⟩, if_pos q0]
        · rw [if_neg (by omega), if_neg q0, if_neg q1, if_neg q]
          (repeat (first | rfl | rw [zm_s] | rw [zm_a _ _ (by omega)]))
  · intro k k1 k2 i
    unfold m9J
    rw [if_neg (by omega), up_a _ _ _ _ (by omega), up_a _ _ _ _ (by omega)]
    rcases (show k = 2 ∨ k = 3 ∨ k = 4 ∨ k = 5 ∨ k = 6 ∨ k = 7 ∨ k = 8 ∨ k = 9 ∨ k = 10 ∨ k = 11 ∨ k = 12 ∨ k = 13 ∨ k = 14 ∨ k = 15 ∨ k = 16 by omega) with rfl | rfl | rfl | rfl | rfl | rfl | rfl | rfl | rfl | rfl | rfl | rfl | rfl | rfl | rfl <;> (repeat (first | rfl | rw [zm_s] | rw [zm_a _ _ (by omega)]))
  · intro i
    unfold m9J
    rw [if_neg (by omega), up_a _ _ _ _ (by omega), up_a _ _ _ _ (by omega)]
    (repeat (first | rfl | rw [zm_s] | rw [zm_a _ _ (by omega)]))
  · intro i
    repeat (first | rfl | rw [zl_a _ _ (by omega)])
end IR
