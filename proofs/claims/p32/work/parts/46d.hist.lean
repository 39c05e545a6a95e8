/-! CONSTRUCTORS OF HISTORY AND TREE -/
def SI (mu : Mem) (c : Nat) : Prop := (mu c 0 = 100 ∧ mu c 1 = 60 ∧ mu c 2 = 0) ∧ (∀ i, mu (c + 1) i = 0) ∧ LI mu (c + 2) ∧ (∀ i, mu (c + 12) i = 0) ∧ ∀ k, k < 4 → LI mu (c + 13 + 9 * k)
theorem SI.of {mu mu' : Mem} {c : Nat} (h : SI mu c) (he : ∀ a, c ≤ a → a ≤ c + 48 → ∀ i, mu' a i = mu a i) : SI mu' c := by
  obtain ⟨h1, h2, h3, h4, h5⟩ := h
  refine ⟨?_, fun i => ?_, h3.of fun a q1 q2 i => he a (by omega) (by omega) i, fun i => ?_, fun k hk => (h5 k hk).of fun a q1 q2 i => he a (by omega) (by omega) i⟩
  · rw [he _ (by omega) (by omega), he _ (by omega) (by omega), he _ (by omega) (by omega)]; exact h1
  · rw [he _ (by omega) (by omega)]; exact h2 i
  · rw [he _ (by omega) (by omega)]; exact h4 i
theorem StS.of {S S' : Sh} {c : Nat} (h : StS S c) (he : ∀ a x, c ≤ a → a ≤ c + 48 → hasS S a x → hasS S' a x) : StS S' c := by
  obtain ⟨h1, h2, h3, h4, h5, h6⟩ := h
  exact ⟨he _ _ (by omega) (by omega) h1, he _ _ (by omega) (by omega) h2, h3.of fun a x q1 q2 => he a x (by omega) (by omega), he _ _ (by omega) (by omega) h4, he _ _ (by omega) (by omega) h5, fun k hk => (h6 k hk).of fun a x q1 q2 => he a x (by omega) (by omega)⟩
theorem PlanS.of {S S' : Sh} {p : Nat} (h : PlanS S p) (he : ∀ a x, p ≤ a → a ≤ p + 13 → hasS S a x → hasS S' a x) : PlanS S' p := by
  obtain ⟨h1, h2, h3⟩ := h
  exact ⟨he _ _ (by omega) (by omega) h1, he _ _ (by omega) (by omega) h2, fun k hk => by have := plen_14 hk; exact he _ _ (by omega) (by omega) (h3 k hk)⟩
theorem TxS.of {S S' : Sh} {t : Nat} (h : TxS S t) (he : ∀ a x, t ≤ a → a ≤ t + 2 → hasS S a x → hasS S' a x) : TxS S' t :=
  ⟨he _ _ (by omega) (by omega) h.1, he _ _ (by omega) (by omega) h.2.1, he _ _ (by omega) (by omega) h.2.2⟩
theorem HiS.of {S S' : Sh} {h : Nat} (hh : HiS S h) (he : ∀ a x, h ≤ a → a ≤ h + 197 → hasS S a x → hasS S' a x) : HiS S' h :=
  ⟨he _ _ (by omega) (by omega) hh.1, he _ _ (by omega) (by omega) hh.2.1, fun k hk => (hh.2.2 k hk).of fun a x q1 q2 => he a x (by omega) (by omega)⟩
def I3 (h : Nat) (S : Sh) (mu : Mem) (la : Lam) (j : Nat) (S2 : Sh) (mu2 : Mem) (la2 : Lam) : Prop :=
  hasS S2 h (.inr (.inr (1, [.inl (.ref (h + 1)), .inr 0, .inr 0]))) ∧ hasS S2 (h + 1) (.inr (.inl (1, 4, fun i => if i < j then some (h + 2 + 49 * i) else none))) ∧
  (∀ k, k < j → StS S2 (h + 2 + 49 * k) ∧ SI mu2 (h + 2 + 49 * k)) ∧ (∀ b x, b < h + 1 → b ≠ h → hasS S b x → hasS S2 b x) ∧ (∀ b, b < h + 1 → (∀ i, mu2 b i = mu b i) ∧ ∀ i, la2 b i = la b i)
theorem va_up_i3 (h j : Nat) : va_up (fun i => if i < j then some (h + 2 + 49 * i) else none) ((j : Int)).toNat (some (h + 2 + 49 * j)) = fun i => if i < j + 1 then some (h + 2 + 49 * i) else none := by
  funext i
  rw [Int.toNat_natCast]
  by_cases hi : i = j
  · subst hi; rw [va_up_self, if_pos (by omega)]
  · rw [va_up_ne _ _ hi]
    by_cases hj : i < j
    · rw [if_pos hj, if_pos (by omega)]
    · rw [if_neg hj, if_neg (by omega)]
theorem I3.step {h : Nat} {S : Sh} {mu : Mem} {la : Lam} {j : Nat} {S2 S3 : Sh} {mu2 mu3 : Mem} {la2 la3 : Lam} (hI : I3 h S mu la j S2 mu2 la2) (he : ∀ a x, a < h + 2 + 49 * j → a ≠ h + 1 → hasS S2 a x → hasS S3 a x) (hm : ∀ a, a < h + 2 + 49 * j → (∀ i, mu3 a i = mu2 a i) ∧ ∀ i, la3 a i = la2 a i)
    (hr : hasS S3 (h + 1) (.inr (.inl (1, 4, fun i => if i < j + 1 then some (h + 2 + 49 * i) else none)))) (hL : StS S3 (h + 2 + 49 * j)) (hl : SI mu3 (h + 2 + 49 * j)) : I3 h S mu la (j + 1) S3 mu3 la3 := by
  obtain ⟨a1, a4, a6, a7, a8⟩ := hI
  refine ⟨he _ _ (by omega) (by omega) a1, hr, fun k hk => ?_, fun b x h1 h2 h3 => he _ _ (by omega) (by omega) (a7 b x h1 h2 h3), fun b h1 => ?_⟩
  · by_cases hj : k = j
    · subst hj; exact ⟨hL, hl⟩
    · obtain ⟨c1, c2⟩ := a6 k (by omega)
      exact ⟨c1.of fun a x h1 h2 => he a x (by omega) (by omega), c2.of fun a h1 h2 i => (hm a (by omega)).1 i⟩
  · exact ⟨fun i => ((hm b (by omega)).1 i).trans ((a8 b h1).1 i), fun i => ((hm b (by omega)).2 i).trans ((a8 b h1).2 i)⟩
section IP
variable {G : Gx} {l : Launch} {S : Sh} {mu : Mem} {la : Lam} {h : Nat}
set_option maxRecDepth 20000 in
theorem ggX3_init_X7_init : GoodIn wsX3_init wsX7_init := goodIn_r _ [10, 11, 2, 3, 12, 13, 14, 15, 16, 17, 18, 19, 20, 21, 22, 23, 24, 25, 26, 27, 28, 29, 30, 31, 32, 33, 34, 35, 36, 37, 41, 42, 43, 44, 45, 46, 47, 48, 49, 50, 51, 52, 53, 54, 55] (by decide +kernel) (by decide +kernel)
set_option maxRecDepth 20000 in
theorem gX3_init_X7_init : GoodIn wsX3_init (wsX7_init) := ggX3_init_X7_init
theorem dX3_init_0 : decode cX3_init 0 = .ok (.aload_n 0, 1) := by decide +kernel
theorem dX3_init_1 : decode cX3_init 1 = .ok (.invokespecial 3, 3) := by decide +kernel
theorem dX3_init_4 : decode cX3_init 4 = .ok (.aload_n 0, 1) := by decide +kernel
theorem dX3_init_5 : decode cX3_init 5 = .ok (.iconst 4, 1) := by decide +kernel
theorem dX3_init_6 : decode cX3_init 6 = .ok (.anewarray 9, 3) := by decide +kernel
theorem dX3_init_9 : decode cX3_init 9 = .ok (.putfield 11, 3) := by decide +kernel
theorem dX3_init_12 : decode cX3_init 12 = .ok (.iconst 0, 1) := by decide +kernel
theorem dX3_init_13 : decode cX3_init 13 = .ok (.istore_n 1, 1) := by decide +kernel
theorem dX3_init_14 : decode cX3_init 14 = .ok (.iload_n 1, 1) := by decide +kernel
theorem dX3_init_15 : decode cX3_init 15 = .ok (.aload_n 0, 1) := by decide +kernel
theorem dX3_init_16 : decode cX3_init 16 = .ok (.getfield 11, 3) := by decide +kernel
theorem dX3_init_19 : decode cX3_init 19 = .ok (.arraylength, 1) := by decide +kernel
theorem dX3_init_20 : decode cX3_init 20 = .ok (.if_icmp .ge 22, 3) := by decide +kernel
theorem dX3_init_23 : decode cX3_init 23 = .ok (.aload_n 0, 1) := by decide +kernel
theorem dX3_init_24 : decode cX3_init 24 = .ok (.getfield 11, 3) := by decide +kernel
theorem dX3_init_27 : decode cX3_init 27 = .ok (.iload_n 1, 1) := by decide +kernel
theorem dX3_init_28 : decode cX3_init 28 = .ok (.new 9, 3) := by decide +kernel
theorem dX3_init_31 : decode cX3_init 31 = .ok (.dup, 1) := by decide +kernel
theorem dX3_init_32 : decode cX3_init 32 = .ok (.invokespecial 17, 3) := by decide +kernel
theorem dX3_init_35 : decode cX3_init 35 = .ok (.aastore, 1) := by decide +kernel
theorem dX3_init_36 : decode cX3_init 36 = .ok (.iinc 1 1, 3) := by decide +kernel
theorem dX3_init_39 : decode cX3_init 39 = .ok (.goto (-25), 3) := by decide +kernel
theorem dX3_init_42 : decode cX3_init 42 = .ok (.return_, 1) := by decide +kernel
theorem oi1_X3_init : Cond.methodLink RX3 3 objectInit ∈ wsX3_init := by decide +kernel
theorem oi2_X3_init : Cond.instanceMethod objectInit ∈ wsX3_init := by decide +kernel
theorem oi3_X3_init : Cond.code objectInit ⟨#[0xb1]⟩ 1 none ∈ wsX3_init := by decide +kernel
theorem nc_X3_init_6 : Cond.classLink RX3 9 RX7 ∈ wsX3_init := by decide +kernel
theorem nc_X3_init_28 : Cond.classLink RX3 9 RX7 ∈ wsX3_init := by decide +kernel
theorem nd_X3_init_28 : Cond.instantiable RX7 7 ∈ wsX3_init := by decide +kernel
theorem ne_X3_init_28 : Cond.initialized RX7 ∈ wsX3_init := by decide +kernel
theorem hin9_X3_init_28 : ∀ w ∈ wsX70, w ∈ wsX3_init := by decide +kernel
theorem hin_X3_init_X3 : ∀ w ∈ wsX30, w ∈ wsX3_init := by decide +kernel
theorem lk_X3_init_11 : Cond.fieldLink RX3 11 RX3 "saved" "[LDockTree$State;" ∈ wsX3_init := by decide +kernel
theorem i_X3 (hG : GP G) (hA : GAO G) (hx : hasS S h (.inr (.inr (1, ksX3)))) : Ct G l yX3_init wsX3_init 3 197 6192 [.ref h] S (h + 1) mu la (Nw h (h + 1) 197 S mu la (fun S' mu' _ => HiS S' h ∧ (∀ i, mu' h i = mu h i) ∧ ∀ k, k < 4 → SI mu' (h + 2 + 49 * k))) := by
  refine Ct.ofI (cc := cX3_init) (nL := 2) (ret := none) [some (.ref h), none] hG (by decide) rfl (Nat.le_of_ble_eq_true rfl) rfl ?_
  rintro X rfl rfl C hnm0 hcl hsl E
  have hao := (hA _ C.pe).2
  have loop : ∀ (d j : Nat) (S2 : Sh) (mu2 : Mem) (la2 : Lam), j + d = 4 → I3 h S mu la j S2 mu2 la2 → V X 14 [some (.ref h), some (.int (I32 (j : Int)))] [] S2 (h + 2 + 49 * j) mu2 la2 (1 + 49 * j) (4 + 1547 * j) := by
    intro d
    induction d with
    | zero =>
      intro j S2 mu2 la2 hj hI
      have hj : j = 4 := by omega
      subst hj
      obtain ⟨a1, a4, a6, a7, a8⟩ := hI
      refine V_iload_n C dX3_init_14 rfl ?_
      refine V_aload_n C dX3_init_15 rfl ?_
      refine V_getR C 0 dX3_init_16 a1 rfl hin_X3_init_X3 (by decide) lk_X3_init_11 rfl rfl ?_
      refine V_alenR C dX3_init_19 a4 ?_
      refine V_icmp_ge C 42 dX3_init_20 (by decide) (by omega) (by omega) (fun _ => ?_) (fun z => absurd z (by omega))
      refine V_eta (fun k => some (h + 2 + 49 * k)) a4 (fun j hj => by rw [if_pos hj]) ?_
      refine V_return C E dX3_init_42 (by omega) (by omega) ?_
      refine ⟨rfl, by omega, fun b x h1 h2 h3 => hasS_re (a7 b x h1 h2 h3) (by omega), fun b h1 h2 => a8 b h1, ⟨hasS_re a1 (by omega), hasS_reS a4, fun k hk => (a6 k hk).1.of fun a x h1 h2 h3 => hasS_re h3 (by omega)⟩, fun i => (a8 h (by omega)).1 i, fun k hk => (a6 k hk).2⟩
    | succ d ih =>
      intro j S2 mu2 la2 hj hI
      have hI0 := hI
      obtain ⟨a1, a4, a6, a7, a8⟩ := hI0
      refine V_iload_n C dX3_init_14 rfl ?_
      refine V_aload_n C dX3_init_15 rfl ?_
      refine V_getR C 0 dX3_init_16 a1 rfl hin_X3_init_X3 (by decide) lk_X3_init_11 rfl rfl ?_
      refine V_alenR C dX3_init_19 a4 ?_
      refine V_icmp_ge C 42 dX3_init_20 (by decide) (by omega) (by omega) (fun z => absurd z (by omega)) (fun _ => ?_)
      refine V_aload_n C dX3_init_23 rfl ?_
      refine V_getR C 0 dX3_init_24 a1 rfl hin_X3_init_X3 (by decide) lk_X3_init_11 rfl rfl ?_
      refine V_iload_n C dX3_init_27 rfl ?_
      refine V_newo C (ci := 5) (ks := ksX7) dX3_init_28 rfl hin9_X3_init_28 tyX7 tyX7_ok nc_X3_init_28 nd_X3_init_28 ne_X3_init_28 rfl ⟨by omega, by omega⟩ ?_
      refine V_dup C dX3_init_31 rfl ?_
      refine V_callI (nA := 0) C dX3_init_32 (i_X7 C.gp hA (hasS_new _ _ _)) gX3_init_X7_init (by decide +kernel) (by decide +kernel) (by decide +kernel) rfl rfl (by decide +kernel) rfl (by decide) (by decide) (Nat.le_of_ble_eq_true rfl) ⟨by omega, by omega⟩ rfl ?_
      rintro o S1 n1 mu1 la1 ⟨rfl, rfl, e1, m1, q1, u1, u2, u3, u4, u5⟩
      refine V_aast C dX3_init_35 (e1 _ _ (by omega) (by omega) (hasS_grow a4 (by omega))) (by decide) rfl q1.1 rfl (by decide) (by omega) ?_
      rw [va_up_i3]
      refine V_iinc C dX3_init_36 rfl rfl (by decide) ?_
      refine V_goto C 14 dX3_init_39 (by decide) ?_
      have h9 := ih (j + 1) _ mu1 la1 (by omega) (hI.step (S3 := reS S1 (h + 1) (.inr (.inl (1, 4, fun i => if i < j + 1 then some (h + 2 + 49 * i) else none)))) (fun a x h1 h2 h3 => hasS_re (e1 _ _ (by omega) (by omega) (hasS_grow h3 (by omega))) h2) (fun a h1 => ⟨fun i => ((m1 a (by omega) (by omega)).1 i).trans (zm_a _ _ (by omega)), fun i => ((m1 a (by omega) (by omega)).2 i).trans (zl_a _ _ (by omega))⟩) (hasS_reM (e1 _ _ (by omega) (by omega) (hasS_grow a4 (by omega))).1) (q1.of fun a x h1 h2 h3 => hasS_re h3 (by omega)) ⟨⟨u1.1, u1.2.1, u1.2.2.trans (zm_s _ _ _)⟩, u2, u3, u4, u5⟩)
      rw [show h + 2 + 49 * (j + 1) = h + 2 + 49 * j + 1 + 48 by omega, show 1 + 49 * (j + 1) = 1 + 49 * j + 1 + 48 by omega, show 4 + 1547 * (j + 1) = 4 + 1547 * j + 7 + 1540 by omega] at h9
      exact h9
  refine V_aload_n C dX3_init_0 rfl ?_
  refine V_objInit C dX3_init_1 oi1_X3_init oi2_X3_init oi3_X3_init (by decide) (by decide) ?_
  refine V_aload_n C dX3_init_4 rfl ?_
  refine V_iconst C dX3_init_5 ?_
  refine V_newq C (w := 1) (Cn := RX7) 4 dX3_init_6 nc_X3_init_6 hao rfl (by decide) rfl (by decide) ⟨by omega, by omega⟩ ?_
  refine V_putO C hnm0 0 dX3_init_9 (by repeat (first | with_reducible exact hx | with_reducible exact hx0 | exact hx.1 | with_reducible exact hasS_new _ _ _ | with_reducible refine hasS_reM ?_ | with_reducible refine memG ?_ | with_reducible refine memR ?_ | with_reducible refine hasS_grow ?_ (by omega) | with_reducible refine hasS_re ?_ (by omega) | exact hasS_new _ _ _ | refine hasS_reM ?_)) rfl hin_X3_init_X3 tyX3 tyX3_ok nmX3 (by decide) lk_X3_init_11 rfl rfl (tyX3_ok 0 (by decide)) rfl rfl (Nat.le_of_ble_eq_true rfl) ?_
  refine V_iconst C dX3_init_12 ?_
  refine V_istore_n C dX3_init_13 rfl (by decide) ?_
  refine loop 4 0 _ _ _ (by omega) ⟨?_, ?_, fun k hk => absurd hk (by omega), ?_, ?_⟩
  · exact hasS_reM (memG hx.1)
  · exact hasS_re (hasS_new _ _ _) (by omega)
  · intro b x h1 h2 h3
    exact hasS_re (hasS_grow h3 (by omega)) (by omega)
  · intro b h1
    exact ⟨fun i => zm_a _ _ (by omega), fun i => zl_a _ _ (by omega)⟩
end IP
