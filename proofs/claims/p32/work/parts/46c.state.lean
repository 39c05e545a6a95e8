/-! THE STATE'S CONSTRUCTOR -/
def LI (mu : Mem) (b : Nat) : Prop := (∀ i, mu (b + 1) i = if 0 ≤ i ∧ i < 49 then -1 else 0) ∧ ∀ k, 1 ≤ k → k ≤ 7 → ∀ i, mu (b + 1 + k) i = 0
theorem LI.of {mu mu' : Mem} {b : Nat} (h : LI mu b) (he : ∀ a, b ≤ a → a ≤ b + 8 → ∀ i, mu' a i = mu a i) : LI mu' b :=
  ⟨fun i => by rw [he _ (by omega) (by omega)]; exact h.1 i, fun k k1 k2 i => by rw [he _ (by omega) (by omega)]; exact h.2 k k1 k2 i⟩
theorem LayS.of {S S' : Sh} {b : Nat} (h : LayS S b) (he : ∀ a x, b ≤ a → a ≤ b + 8 → hasS S a x → hasS S' a x) : LayS S' b :=
  ⟨he _ _ (by omega) (by omega) h.1, fun k hk => he _ _ (by omega) (by omega) (h.2 k hk)⟩
def GAO (G : Gx) : Prop := ∀ U : State, PE G U → va_AO RX4 U ∧ va_AO RX7 U
def ks7 (h : Nat) : List Sk := [.inr 0, .inr 0, .inr 0, .inl (.ref (h + 1)), .inl (.ref (h + 2)), .inl (.ref (h + 11)), .inl (.ref (h + 12))]
def I7 (h : Nat) (S : Sh) (mu : Mem) (la : Lam) (j : Nat) (S2 : Sh) (mu2 : Mem) (la2 : Lam) : Prop :=
  hasS S2 h (.inr (.inr (5, ks7 h))) ∧ hasS S2 (h + 1) (.inl (0, 32)) ∧ LayS S2 (h + 2) ∧ hasS S2 (h + 11) (.inr (.inl (0, 4, fun i => if i < j then some (h + 13 + 9 * i) else none))) ∧ hasS S2 (h + 12) (.inl (0, 4)) ∧
  (∀ k, k < j → LayS S2 (h + 13 + 9 * k) ∧ LI mu2 (h + 13 + 9 * k)) ∧ (∀ b x, b < h + 1 → b ≠ h → hasS S b x → hasS S2 b x) ∧ (∀ b, b < h + 1 → b ≠ h → (∀ i, mu2 b i = mu b i) ∧ ∀ i, la2 b i = la b i) ∧
  (mu2 h 0 = 100 ∧ mu2 h 1 = 60 ∧ mu2 h 2 = mu h 2) ∧ (∀ i, mu2 (h + 1) i = 0) ∧ LI mu2 (h + 2) ∧ ∀ i, mu2 (h + 12) i = 0
/-- a step keeps what stood -/
theorem I7.step {h : Nat} {S : Sh} {mu : Mem} {la : Lam} {j : Nat} {S2 S3 : Sh} {mu2 mu3 : Mem} {la2 la3 : Lam} (hI : I7 h S mu la j S2 mu2 la2) (he : ∀ a x, a < h + 13 + 9 * j → a ≠ h + 11 → hasS S2 a x → hasS S3 a x) (hm : ∀ a, a < h + 13 + 9 * j → (∀ i, mu3 a i = mu2 a i) ∧ ∀ i, la3 a i = la2 a i)
    (hr : hasS S3 (h + 11) (.inr (.inl (0, 4, fun i => if i < j + 1 then some (h + 13 + 9 * i) else none)))) (hL : LayS S3 (h + 13 + 9 * j)) (hl : LI mu3 (h + 13 + 9 * j)) : I7 h S mu la (j + 1) S3 mu3 la3 := by
  obtain ⟨a1, a2, a3, a4, a5, a6, a7, a8, a9, a10, a11, a12⟩ := hI
  refine ⟨he _ _ (by omega) (by omega) a1, he _ _ (by omega) (by omega) a2, a3.of fun a x h1 h2 => he a x (by omega) (by omega), hr, he _ _ (by omega) (by omega) a5, fun k hk => ?_, fun b x h1 h2 h3 => he _ _ (by omega) (by omega) (a7 b x h1 h2 h3), fun b h1 h2 => ?_, ?_, fun i => ?_, a11.of fun a h1 h2 i => (hm a (by omega)).1 i, fun i => ?_⟩
  · by_cases hj : k = j
    · subst hj; exact ⟨hL, hl⟩
    · obtain ⟨c1, c2⟩ := a6 k (by omega)
      exact ⟨c1.of fun a x h1 h2 => he a x (by omega) (by omega), c2.of fun a h1 h2 i => (hm a (by omega)).1 i⟩
  · exact ⟨fun i => ((hm b (by omega)).1 i).trans ((a8 b h1 h2).1 i), fun i => ((hm b (by omega)).2 i).trans ((a8 b h1 h2).2 i)⟩
  · rw [(hm h (by omega)).1, (hm h (by omega)).1, (hm h (by omega)).1]; exact a9
  · rw [(hm _ (by omega)).1]; exact a10 i
  · rw [(hm _ (by omega)).1]; exact a12 i
theorem va_up_if (h j : Nat) : va_up (fun i => if i < j then some (h + 13 + 9 * i) else none) ((j : Int)).toNat (some (h + 13 + 9 * j)) = fun i => if i < j + 1 then some (h + 13 + 9 * i) else none := by
  funext i
  rw [Int.toNat_natCast]
  by_cases hi : i = j
  · subst hi; rw [va_up_self, if_pos (by omega)]
  · rw [va_up_ne _ _ hi]
    by_cases hj : i < j
    · rw [if_pos hj, if_pos (by omega)]
    · rw [if_neg hj, if_neg (by omega)]
section IO
variable {G : Gx} {l : Launch} {S : Sh} {mu : Mem} {la : Lam} {h : Nat}
set_option maxRecDepth 20000 in
theorem ggX7_init_X4_init : GoodIn wsX7_init wsX4_init := goodIn_r _ [16, 17, 2, 3, 6, 18, 19, 20, 21, 22, 23, 24, 25, 26, 27, 28, 29, 37, 38, 39, 40, 41, 42, 43, 44] (by decide +kernel) (by decide +kernel)
set_option maxRecDepth 20000 in
theorem gX7_init_X4_init : GoodIn wsX7_init (wsX4_init) := ggX7_init_X4_init
theorem dX7_init_0 : decode cX7_init 0 = .ok (.aload_n 0, 1) := by decide +kernel
theorem dX7_init_1 : decode cX7_init 1 = .ok (.invokespecial 3, 3) := by decide +kernel
theorem dX7_init_4 : decode cX7_init 4 = .ok (.aload_n 0, 1) := by decide +kernel
theorem dX7_init_5 : decode cX7_init 5 = .ok (.bipush 100, 2) := by decide +kernel
theorem dX7_init_7 : decode cX7_init 7 = .ok (.putfield 9, 3) := by decide +kernel
theorem dX7_init_10 : decode cX7_init 10 = .ok (.aload_n 0, 1) := by decide +kernel
theorem dX7_init_11 : decode cX7_init 11 = .ok (.bipush 60, 2) := by decide +kernel
theorem dX7_init_13 : decode cX7_init 13 = .ok (.putfield 15, 3) := by decide +kernel
theorem dX7_init_16 : decode cX7_init 16 = .ok (.aload_n 0, 1) := by decide +kernel
theorem dX7_init_17 : decode cX7_init 17 = .ok (.bipush 32, 2) := by decide +kernel
theorem dX7_init_19 : decode cX7_init 19 = .ok (.newarray .int, 2) := by decide +kernel
theorem dX7_init_21 : decode cX7_init 21 = .ok (.putfield 18, 3) := by decide +kernel
theorem dX7_init_24 : decode cX7_init 24 = .ok (.aload_n 0, 1) := by decide +kernel
theorem dX7_init_25 : decode cX7_init 25 = .ok (.new 22, 3) := by decide +kernel
theorem dX7_init_28 : decode cX7_init 28 = .ok (.dup, 1) := by decide +kernel
theorem dX7_init_29 : decode cX7_init 29 = .ok (.invokespecial 24, 3) := by decide +kernel
theorem dX7_init_32 : decode cX7_init 32 = .ok (.putfield 25, 3) := by decide +kernel
theorem dX7_init_35 : decode cX7_init 35 = .ok (.aload_n 0, 1) := by decide +kernel
theorem dX7_init_36 : decode cX7_init 36 = .ok (.iconst 4, 1) := by decide +kernel
theorem dX7_init_37 : decode cX7_init 37 = .ok (.anewarray 22, 3) := by decide +kernel
theorem dX7_init_40 : decode cX7_init 40 = .ok (.putfield 29, 3) := by decide +kernel
theorem dX7_init_43 : decode cX7_init 43 = .ok (.aload_n 0, 1) := by decide +kernel
theorem dX7_init_44 : decode cX7_init 44 = .ok (.iconst 4, 1) := by decide +kernel
theorem dX7_init_45 : decode cX7_init 45 = .ok (.newarray .int, 2) := by decide +kernel
theorem dX7_init_47 : decode cX7_init 47 = .ok (.putfield 33, 3) := by decide +kernel
theorem dX7_init_50 : decode cX7_init 50 = .ok (.iconst 0, 1) := by decide +kernel
theorem dX7_init_51 : decode cX7_init 51 = .ok (.istore_n 1, 1) := by decide +kernel
theorem dX7_init_52 : decode cX7_init 52 = .ok (.iload_n 1, 1) := by decide +kernel
theorem dX7_init_53 : decode cX7_init 53 = .ok (.aload_n 0, 1) := by decide +kernel
theorem dX7_init_54 : decode cX7_init 54 = .ok (.getfield 29, 3) := by decide +kernel
theorem dX7_init_57 : decode cX7_init 57 = .ok (.arraylength, 1) := by decide +kernel
theorem dX7_init_58 : decode cX7_init 58 = .ok (.if_icmp .ge 22, 3) := by decide +kernel
theorem dX7_init_61 : decode cX7_init 61 = .ok (.aload_n 0, 1) := by decide +kernel
theorem dX7_init_62 : decode cX7_init 62 = .ok (.getfield 29, 3) := by decide +kernel
theorem dX7_init_65 : decode cX7_init 65 = .ok (.iload_n 1, 1) := by decide +kernel
theorem dX7_init_66 : decode cX7_init 66 = .ok (.new 22, 3) := by decide +kernel
theorem dX7_init_69 : decode cX7_init 69 = .ok (.dup, 1) := by decide +kernel
theorem dX7_init_70 : decode cX7_init 70 = .ok (.invokespecial 24, 3) := by decide +kernel
theorem dX7_init_73 : decode cX7_init 73 = .ok (.aastore, 1) := by decide +kernel
theorem dX7_init_74 : decode cX7_init 74 = .ok (.iinc 1 1, 3) := by decide +kernel
theorem dX7_init_77 : decode cX7_init 77 = .ok (.goto (-25), 3) := by decide +kernel
theorem dX7_init_80 : decode cX7_init 80 = .ok (.return_, 1) := by decide +kernel
theorem oi1_X7_init : Cond.methodLink RX7 3 objectInit ∈ wsX7_init := by decide +kernel
theorem oi2_X7_init : Cond.instanceMethod objectInit ∈ wsX7_init := by decide +kernel
theorem oi3_X7_init : Cond.code objectInit ⟨#[0xb1]⟩ 1 none ∈ wsX7_init := by decide +kernel
theorem oi4_X7_init : Cond.arrayClass .int ∈ wsX7_init := by decide +kernel
theorem nc_X7_init_25 : Cond.classLink RX7 22 RX4 ∈ wsX7_init := by decide +kernel
theorem nd_X7_init_25 : Cond.instantiable RX4 8 ∈ wsX7_init := by decide +kernel
theorem ne_X7_init_25 : Cond.initialized RX4 ∈ wsX7_init := by decide +kernel
theorem hin9_X7_init_25 : ∀ w ∈ wsX40, w ∈ wsX7_init := by decide +kernel
theorem nc_X7_init_37 : Cond.classLink RX7 22 RX4 ∈ wsX7_init := by decide +kernel
theorem nc_X7_init_66 : Cond.classLink RX7 22 RX4 ∈ wsX7_init := by decide +kernel
theorem nd_X7_init_66 : Cond.instantiable RX4 8 ∈ wsX7_init := by decide +kernel
theorem ne_X7_init_66 : Cond.initialized RX4 ∈ wsX7_init := by decide +kernel
theorem hin9_X7_init_66 : ∀ w ∈ wsX40, w ∈ wsX7_init := by decide +kernel
theorem hin_X7_init_X7 : ∀ w ∈ wsX70, w ∈ wsX7_init := by decide +kernel
theorem lk_X7_init_9 : Cond.fieldLink RX7 9 RX7 "width" "I" ∈ wsX7_init := by decide +kernel
theorem lk_X7_init_15 : Cond.fieldLink RX7 15 RX7 "height" "I" ∈ wsX7_init := by decide +kernel
theorem lk_X7_init_18 : Cond.fieldLink RX7 18 RX7 "least" "[I" ∈ wsX7_init := by decide +kernel
theorem lk_X7_init_25 : Cond.fieldLink RX7 25 RX7 "layout" "LDockTree$Layout;" ∈ wsX7_init := by decide +kernel
theorem lk_X7_init_29 : Cond.fieldLink RX7 29 RX7 "kept" "[LDockTree$Layout;" ∈ wsX7_init := by decide +kernel
theorem lk_X7_init_33 : Cond.fieldLink RX7 33 RX7 "has" "[I" ∈ wsX7_init := by decide +kernel
theorem i_X7 (hG : GP G) (hA : GAO G) (hx : hasS S h (.inr (.inr (5, ksX7)))) : Ct G l yX7_init wsX7_init 2 48 1540 [.ref h] S (h + 1) mu la (Nw h (h + 1) 48 S mu la (fun S' mu' _ => StS S' h ∧ (mu' h 0 = 100 ∧ mu' h 1 = 60 ∧ mu' h 2 = mu h 2) ∧ (∀ i, mu' (h + 1) i = 0) ∧ LI mu' (h + 2) ∧ (∀ i, mu' (h + 12) i = 0) ∧ ∀ k, k < 4 → LI mu' (h + 13 + 9 * k))) := by
  refine Ct.ofI (cc := cX7_init) (nL := 2) (ret := none) [some (.ref h), none] hG (by decide) rfl (Nat.le_of_ble_eq_true rfl) rfl ?_
  rintro X rfl rfl C hnm0 hcl hsl E
  have hao := (hA _ C.pe).1
  have loop : ∀ (d j : Nat) (S2 : Sh) (mu2 : Mem) (la2 : Lam), j + d = 4 → I7 h S mu la j S2 mu2 la2 → V X 52 [some (.ref h), some (.int (I32 (j : Int)))] [] S2 (h + 13 + 9 * j) mu2 la2 (12 + 9 * j) (340 + 300 * j) := by
    intro d
    induction d with
    | zero =>
      intro j S2 mu2 la2 hj hI
      have hj : j = 4 := by omega
      subst hj
      obtain ⟨a1, a2, a3, a4, a5, a6, a7, a8, a9, a10, a11, a12⟩ := hI
      refine V_iload_n C dX7_init_52 rfl ?_
      refine V_aload_n C dX7_init_53 rfl ?_
      refine V_getR C 5 dX7_init_54 a1 rfl hin_X7_init_X7 (by decide) lk_X7_init_29 rfl rfl ?_
      refine V_alenR C dX7_init_57 a4 ?_
      refine V_icmp_ge C 80 dX7_init_58 (by decide) (by omega) (by omega) (fun _ => ?_) (fun z => absurd z (by omega))
      refine V_eta (fun k => some (h + 13 + 9 * k)) a4 (fun j hj => by rw [if_pos hj]) ?_
      refine V_return C E dX7_init_80 (by omega) (by omega) ?_
      refine ⟨rfl, by omega, fun b x h1 h2 h3 => hasS_re (a7 b x h1 h2 h3) (by omega), a8, ⟨hasS_re a1 (by omega), hasS_re a2 (by omega), a3.of fun a x h1 h2 h3 => hasS_re h3 (by omega), hasS_reS a4, hasS_re a5 (by omega), fun k hk => (a6 k hk).1.of fun a x h1 h2 h3 => hasS_re h3 (by omega)⟩, a9, a10, a11, a12, fun k hk => (a6 k hk).2⟩
    | succ d ih =>
      intro j S2 mu2 la2 hj hI
      have hI0 := hI
      obtain ⟨a1, a2, a3, a4, a5, a6, a7, a8, a9, a10, a11, a12⟩ := hI0
      refine V_iload_n C dX7_init_52 rfl ?_
      refine V_aload_n C dX7_init_53 rfl ?_
      refine V_getR C 5 dX7_init_54 a1 rfl hin_X7_init_X7 (by decide) lk_X7_init_29 rfl rfl ?_
      refine V_alenR C dX7_init_57 a4 ?_
      refine V_icmp_ge C 80 dX7_init_58 (by decide) (by omega) (by omega) (fun z => absurd z (by omega)) (fun _ => ?_)
      refine V_aload_n C dX7_init_61 rfl ?_
      refine V_getR C 5 dX7_init_62 a1 rfl hin_X7_init_X7 (by decide) lk_X7_init_29 rfl rfl ?_
      refine V_iload_n C dX7_init_65 rfl ?_
      refine V_newo C (ci := 2) (ks := ksX4) dX7_init_66 rfl hin9_X7_init_66 tyX4 tyX4_ok nc_X7_init_66 nd_X7_init_66 ne_X7_init_66 rfl ⟨by omega, by omega⟩ ?_
      refine V_dup C dX7_init_69 rfl ?_
      refine V_callI (nA := 0) C dX7_init_70 (i_X4 C.gp (hasS_new _ _ _)) gX7_init_X4_init (by decide +kernel) (by decide +kernel) (by decide +kernel) rfl rfl (by decide +kernel) rfl (by decide) (by decide) (Nat.le_of_ble_eq_true rfl) ⟨by omega, by omega⟩ rfl ?_
      rintro o S1 n1 mu1 la1 ⟨rfl, rfl, e1, m1, q1, f1, z1, u1⟩
      refine V_aast C dX7_init_73 (e1 _ _ (by omega) (by omega) (hasS_grow a4 (by omega))) (by decide) rfl q1.1 rfl (by decide) (by omega) ?_
      rw [va_up_if]
      refine V_iinc C dX7_init_74 rfl rfl (by decide) ?_
      refine V_goto C 52 dX7_init_77 (by decide) ?_
      have h9 := ih (j + 1) _ mu1 la1 (by omega) (hI.step (S3 := reS S1 (h + 11) (.inr (.inl (0, 4, fun i => if i < j + 1 then some (h + 13 + 9 * i) else none)))) (fun a x h1 h2 h3 => hasS_re (e1 _ _ (by omega) (by omega) (hasS_grow h3 (by omega))) h2) (fun a h1 => ⟨fun i => ((m1 a (by omega) (by omega)).1 i).trans (zm_a _ _ (by omega)), fun i => ((m1 a (by omega) (by omega)).2 i).trans (zl_a _ _ (by omega))⟩) (hasS_reM (e1 _ _ (by omega) (by omega) (hasS_grow a4 (by omega))).1) (q1.of fun a x h1 h2 h3 => hasS_re h3 (by omega)) ⟨f1, z1⟩)
      rw [show h + 13 + 9 * (j + 1) = h + 13 + 9 * j + 1 + 8 by omega, show 12 + 9 * (j + 1) = 12 + 9 * j + 1 + 8 by omega, show 340 + 300 * (j + 1) = 340 + 300 * j + 8 + 292 by omega] at h9
      exact h9
  refine V_aload_n C dX7_init_0 rfl ?_
  refine V_objInit C dX7_init_1 oi1_X7_init oi2_X7_init oi3_X7_init (by decide) (by decide) ?_
  refine V_aload_n C dX7_init_4 rfl ?_
  refine V_bipush C dX7_init_5 (by decide +kernel) ?_
  refine V_putI C 0 dX7_init_7 (by repeat (first | with_reducible exact hx | with_reducible exact hx0 | exact hx.1 | with_reducible exact hasS_new _ _ _ | with_reducible refine hasS_reM ?_ | with_reducible refine memG ?_ | with_reducible refine memR ?_ | with_reducible refine hasS_grow ?_ (by omega) | with_reducible refine hasS_re ?_ (by omega) | exact hasS_new _ _ _ | refine hasS_reM ?_)) rfl hin_X7_init_X7 tyX7 tyX7_ok nmX7 (by decide) lk_X7_init_9 rfl rfl (by decide +kernel) rfl ?_
  refine V_aload_n C dX7_init_10 rfl ?_
  refine V_bipush C dX7_init_11 (by decide +kernel) ?_
  refine V_putI C 1 dX7_init_13 (by repeat (first | with_reducible exact hx | with_reducible exact hx0 | exact hx.1 | with_reducible exact hasS_new _ _ _ | with_reducible refine hasS_reM ?_ | with_reducible refine memG ?_ | with_reducible refine memR ?_ | with_reducible refine hasS_grow ?_ (by omega) | with_reducible refine hasS_re ?_ (by omega) | exact hasS_new _ _ _ | refine hasS_reM ?_)) rfl hin_X7_init_X7 tyX7 tyX7_ok nmX7 (by decide) lk_X7_init_15 rfl rfl (by decide +kernel) rfl ?_
  refine V_aload_n C dX7_init_16 rfl ?_
  refine V_bipush C dX7_init_17 (by decide +kernel) ?_
  refine V_newa C 32 dX7_init_19 oi4_X7_init rfl (by decide) ⟨by omega, by omega⟩ ?_
  refine V_putO C hnm0 3 dX7_init_21 (by repeat (first | with_reducible exact hx | with_reducible exact hx0 | exact hx.1 | with_reducible exact hasS_new _ _ _ | with_reducible refine hasS_reM ?_ | with_reducible refine memG ?_ | with_reducible refine memR ?_ | with_reducible refine hasS_grow ?_ (by omega) | with_reducible refine hasS_re ?_ (by omega) | exact hasS_new _ _ _ | refine hasS_reM ?_)) rfl hin_X7_init_X7 tyX7 tyX7_ok nmX7 (by decide) lk_X7_init_18 rfl rfl (tyX7_ok 3 (by decide)) rfl rfl (Nat.le_of_ble_eq_true rfl) ?_
  refine V_aload_n C dX7_init_24 rfl ?_
  refine V_newo C (ci := 2) (ks := ksX4) dX7_init_25 rfl hin9_X7_init_25 tyX4 tyX4_ok nc_X7_init_25 nd_X7_init_25 ne_X7_init_25 rfl ⟨by omega, by omega⟩ ?_
  refine V_dup C dX7_init_28 rfl ?_
  refine V_callI (nA := 0) C dX7_init_29 (i_X4 C.gp (by repeat (first | exact hx | exact hx.1 | exact hasS_new _ _ _ | refine hasS_reM ?_ | with_reducible refine memG ?_ | with_reducible refine memR ?_ | refine hasS_grow ?_ (by omega) | refine hasS_re ?_ (by omega)))) gX7_init_X4_init (by decide +kernel) (by decide +kernel) (by decide +kernel) rfl rfl (by decide +kernel) rfl (by decide) (by decide) (Nat.le_of_ble_eq_true rfl) ⟨by omega, by omega⟩ rfl ?_
  rintro o S1 n1 mu1 la1 ⟨rfl, rfl, e1, m1, q1, f1, z1, u1⟩
  refine V_putO C hnm0 4 dX7_init_32 (by repeat (first | with_reducible exact hx | with_reducible exact hx0 | exact hx.1 | refine e1 _ _ (by omega) (by omega) ?_ | refine (e1 _ _ (by omega) (by omega) ⟨?_, rfl⟩).1 | with_reducible exact hasS_new _ _ _ | with_reducible refine hasS_reM ?_ | with_reducible refine memG ?_ | with_reducible refine memR ?_ | with_reducible refine hasS_grow ?_ (by omega) | with_reducible refine hasS_re ?_ (by omega) | exact hasS_new _ _ _ | refine hasS_reM ?_)) rfl hin_X7_init_X7 tyX7 tyX7_ok nmX7 (by decide) lk_X7_init_25 rfl rfl (tyX7_ok 4 (by decide)) rfl rfl (Nat.le_of_ble_eq_true rfl) ?_
  refine V_aload_n C dX7_init_35 rfl ?_
  refine V_iconst C dX7_init_36 ?_
  refine V_newq C (w := 0) (Cn := RX4) 4 dX7_init_37 nc_X7_init_37 hao rfl (by decide) rfl (by decide) ⟨by omega, by omega⟩ ?_
  refine V_putO C hnm0 5 dX7_init_40 (by repeat (first | with_reducible exact hx | with_reducible exact hx0 | exact hx.1 | refine e1 _ _ (by omega) (by omega) ?_ | refine (e1 _ _ (by omega) (by omega) ⟨?_, rfl⟩).1 | with_reducible exact hasS_new _ _ _ | with_reducible refine hasS_reM ?_ | with_reducible refine memG ?_ | with_reducible refine memR ?_ | with_reducible refine hasS_grow ?_ (by omega) | with_reducible refine hasS_re ?_ (by omega) | exact hasS_new _ _ _ | refine hasS_reM ?_)) rfl hin_X7_init_X7 tyX7 tyX7_ok nmX7 (by decide) lk_X7_init_29 rfl rfl (tyX7_ok 5 (by decide)) rfl rfl (Nat.le_of_ble_eq_true rfl) ?_
  refine V_aload_n C dX7_init_43 rfl ?_
  refine V_iconst C dX7_init_44 ?_
  refine V_newa C 4 dX7_init_45 oi4_X7_init rfl (by decide) ⟨by omega, by omega⟩ ?_
  refine V_putO C hnm0 6 dX7_init_47 (by repeat (first | with_reducible exact hx | with_reducible exact hx0 | exact hx.1 | refine e1 _ _ (by omega) (by omega) ?_ | refine (e1 _ _ (by omega) (by omega) ⟨?_, rfl⟩).1 | with_reducible exact hasS_new _ _ _ | with_reducible refine hasS_reM ?_ | with_reducible refine memG ?_ | with_reducible refine memR ?_ | with_reducible refine hasS_grow ?_ (by omega) | with_reducible refine hasS_re ?_ (by omega) | exact hasS_new _ _ _ | refine hasS_reM ?_)) rfl hin_X7_init_X7 tyX7 tyX7_ok nmX7 (by decide) lk_X7_init_33 rfl rfl (tyX7_ok 6 (by decide)) rfl rfl (Nat.le_of_ble_eq_true rfl) ?_
  refine V_iconst C dX7_init_50 ?_
  refine V_istore_n C dX7_init_51 rfl (by decide) ?_
  refine loop 4 0 _ _ _ (by omega) ⟨?_, ?_, ?_, ?_, ?_, fun k hk => absurd hk (by omega), ?_, ?_, ?_, ?_, ?_, ?_⟩
  · exact hasS_reM (memG (memR (memG (memR (e1 h _ (by omega) (by omega) ⟨(by repeat (first | exact hx.1 | with_reducible refine memG ?_ | with_reducible refine memR ?_)), rfl⟩).1))))
  · exact hasS_re (hasS_grow (hasS_re (hasS_grow (hasS_re (e1 _ _ (by omega) (by omega) (by repeat (first | exact hx | exact hx.1 | exact hasS_new _ _ _ | refine hasS_reM ?_ | with_reducible refine memG ?_ | with_reducible refine memR ?_ | refine hasS_grow ?_ (by omega) | refine hasS_re ?_ (by omega)))) (by omega)) (by omega)) (by omega)) (by omega)) (by omega)
  · exact q1.of fun a x h1 h2 h3 => hasS_re (hasS_grow (hasS_re (hasS_grow (hasS_re h3 (by omega)) (by omega)) (by omega)) (by omega)) (by omega)
  · exact hasS_re (hasS_grow (hasS_re (hasS_new _ _ _) (by omega)) (by omega)) (by omega)
  · exact hasS_re (hasS_new _ _ _) (by omega)
  · intro b x h1 h2 h3
    refine hasS_re (hasS_grow (hasS_re (hasS_grow (hasS_re (e1 _ _ (by omega) (by omega) ?_) (by omega)) (by omega)) (by omega)) (by omega)) (by omega)
    repeat (first | exact h3 | refine hasS_re ?_ (by omega) | refine hasS_grow ?_ (by omega))
  · intro b h1 h2
    constructor <;> intro i
    · rw [zm_a _ _ (by omega), zm_a _ _ (by omega), (m1 b (by omega) (by omega)).1]
      repeat (first | rfl | rw [zm_a _ _ (by omega)] | rw [up_a _ _ _ _ (by omega)])
    · rw [zl_a _ _ (by omega), zl_a _ _ (by omega), (m1 b (by omega) (by omega)).2]
      repeat (first | rfl | rw [zl_a _ _ (by omega)])
  · have e : ∀ i, zm (zm mu1 (h + 1 + 1 + 1 + 8)) (h + 1 + 1 + 1 + 8 + 1) h i = up (up mu h 0 100) h 1 60 h i := fun i => by
      rw [zm_a _ _ (by omega), zm_a _ _ (by omega), (m1 h (by omega) (by omega)).1, zm_a _ _ (by omega), zm_a _ _ (by omega)]
      rfl
    refine ⟨(e 0).trans ?_, (e 1).trans ?_, (e 2).trans ?_⟩
    · rw [up_i _ _ _ (by decide), up_s]
    · rw [up_s]
    · rw [up_i _ _ _ (by decide), up_i _ _ _ (by decide)]
  · intro i
    rw [zm_a _ _ (by omega), zm_a _ _ (by omega), (m1 _ (by omega) (by omega)).1, zm_a _ _ (by omega), zm_s]
  · exact LI.of ⟨f1, z1⟩ fun a h1 h2 i => by rw [zm_a _ _ (by omega), zm_a _ _ (by omega)]
  · intro i
    exact zm_s _ _ _
end IO
