/-! THE LAW OF p32: raising, closing, moving a tab, weights, another active pane -/
def jR1 (mu : Mem) (w : Nat) (t j : Int) : Mem := fun c i => if c = w + 3 ∧ t ≤ i ∧ i < j then mu c (i + 1) else mu c i
/-- the floating group at place t comes on top -/
def jRs (mu : Mem) (w : Nat) (t gr : Int) : Mem := up (jR1 mu w t (mu w 4 - 1)) (w + 3) (mu w 4 - 1) gr
theorem jR1_0 (mu : Mem) (w : Nat) (t : Int) : jR1 mu w t t = mu := by
  funext c i
  unfold jR1
  rw [if_neg (by omega)]
theorem jR1_x (mu : Mem) (w : Nat) (t j : Int) {c : Nat} (h : c ≠ w + 3) (i : Int) : jR1 mu w t j c i = mu c i := by
  unfold jR1
  rw [if_neg (fun q => h q.1)]
theorem jR1_s (mu : Mem) (w : Nat) {t j : Int} (h : t ≤ j) : up (jR1 mu w t j) (w + 3) j (jR1 mu w t j (w + 3) (j + 1)) = jR1 mu w t (j + 1) := by
  funext c i
  rw [up_e]
  unfold jR1
  by_cases h1 : c = w + 3
  · subst h1
    by_cases h2 : i = j
    · subst h2
      rw [if_pos ⟨rfl, rfl⟩, if_neg (by omega), if_pos ⟨rfl, by omega, by omega⟩]
    · rw [if_neg (by omega)]
      by_cases h3 : t ≤ i ∧ i < j
      · rw [if_pos ⟨rfl, h3⟩, if_pos ⟨rfl, by omega, by omega⟩]
      · rw [if_neg (by omega), if_neg (by omega)]
  · simp only [h1, false_and, if_false]
/-- a place among the tabs behind a move from f to t -/
def mvX (f t v : Int) : Int := if f < v ∧ v ≤ t then v - 1 else if v < f ∧ t ≤ v then v + 1 else v
def jV1 (mu : Mem) (w : Nat) (a t j : Int) : Mem := fun c i => if c = w + 2 ∧ (0 ≤ i ∧ i < 4 * j ∧ i % 4 = 3) ∧ mu (w + 2) (i - 1) = mu (w + 2) (4 * a + 2) ∧ i ≠ 4 * a + 3 then mvX (mu (w + 2) (4 * a + 3)) t (mu c i) else mu c i
def jVs (mu : Mem) (w : Nat) (a t : Int) : Mem := up (jV1 mu w a t (mu w 2)) (w + 2) (4 * a + 3) t
theorem jV1_0 (mu : Mem) (w : Nat) (a t : Int) : jV1 mu w a t 0 = mu := by
  funext c i
  unfold jV1
  rw [if_neg (by omega)]
theorem jV1_x (mu : Mem) (w : Nat) (a t j : Int) {c : Nat} {i : Int} (h : c ≠ w + 2 ∨ i % 4 ≠ 3 ∨ 4 * j ≤ i) : jV1 mu w a t j c i = mu c i := by
  unfold jV1
  rw [if_neg (by omega)]
theorem jV1_s (mu : Mem) (w : Nat) {a t j v : Int} (hj : 0 ≤ j) (hv : v = if mu (w + 2) (4 * j + 2) = mu (w + 2) (4 * a + 2) ∧ j ≠ a then mvX (mu (w + 2) (4 * a + 3)) t (mu (w + 2) (4 * j + 3)) else mu (w + 2) (4 * j + 3)) : up (jV1 mu w a t j) (w + 2) (4 * j + 3) v = jV1 mu w a t (j + 1) := by
  funext c i
  rw [up_e]
  unfold jV1
  by_cases h1 : c = w + 2
  · subst h1
    by_cases h2 : i = 4 * j + 3
    · subst h2
      rw [if_pos ⟨rfl, rfl⟩, show 4 * j + 3 - 1 = 4 * j + 2 by omega, hv]
      by_cases h3 : mu (w + 2) (4 * j + 2) = mu (w + 2) (4 * a + 2) ∧ j ≠ a
      · rw [if_pos h3, if_pos ⟨rfl, ⟨by omega, by omega, by omega⟩, h3.1, by omega⟩]
      · rw [if_neg h3, if_neg (fun q => h3 ⟨q.2.2.1, by omega⟩)]
    · rw [if_neg (fun q => h2 q.2)]
      by_cases h3 : (0 ≤ i ∧ i < 4 * j ∧ i % 4 = 3) ∧ mu (w + 2) (i - 1) = mu (w + 2) (4 * a + 2) ∧ i ≠ 4 * a + 3
      · rw [if_pos ⟨rfl, h3⟩, if_pos ⟨rfl, ⟨h3.1.1, by omega, h3.1.2.2⟩, h3.2⟩]
      · rw [if_neg (fun q => h3 q.2), if_neg (fun q => h3 ⟨⟨q.2.1.1, by omega, q.2.1.2.2⟩, q.2.2⟩)]
  · rw [if_neg (fun q => h1 q.1), if_neg (fun q => h1 q.1), if_neg (fun q => h1 q.1)]
section LC3
variable {X : Cx} {Po : Option Value → Sh → Nat → Mem → Lam → Prop} {S : Sh} {n : Nat} {mu : Mem} {la : Lam} {w o : Nat} {z : Int32} {ww a b was : Int}
-- L_acts
theorem a_10 (C : Ok X cL_acts wsL_acts RL (some .boolean) 9 21) (E : En X 1 6 Po) (hcl : (xR X).cells = 1) (hsl : (xR X).slots = 6) (hL : LwS S w) (hR : R32 mu) (ha : 0 ≤ a ∧ a < 5) (hw2 : 0 ≤ was ∧ was ≤ 2) {m3 : Mem} {t : Int}
    (hM1 : was < 2 → Ct (xG X) (xL X) yL_raises wsL_raises 8 1 6 [.ref o, .int (I32 a)] S n mu la (Lq S (-10000003) mu la) ∧ ∀ n1 : Nat, Po (some (.int (I32 1))) S n1 mu la)
    (hM2 : ¬ was < 2 → (0 ≤ t ∧ t < mu w 4 ∧ mu w 4 ≤ 5) ∧ mu (w + 3) t = mu (w + 2) (4 * a + 2) ∧ (∀ x : Int, 0 ≤ x → x < t → mu (w + 3) x ≠ mu (w + 2) (4 * a + 2)) ∧ Ct (xG X) (xL X) yL_raises wsL_raises 8 1 6 [.ref o, .int (I32 a)] S n (jRs mu w t (mu (w + 2) (4 * a + 2))) la (Lq S t m3 la) ∧ ∀ n1 : Nat, Po (some (.int (I32 1))) S n1 m3 la) :
    V X 727 [some (.ref o), some (.ref w), some (.ref (w + 1)), some (.ref (w + 2)), some (.ref (w + 3)), some (.int z), some (.int (I32 ww)), some (.int (I32 a)), some (.int (I32 b)), some (.int (I32 was)), none, none, none, none, none, none, none, none, none, none, none] [] S n mu la 0 0 := by
  have hg := hL.1
  have hp := hL.2.2.1
  have hf := hL.2.2.2
  have bp := hR (w + 2) (4 * a + 2)
  refine V_iload C dL_acts_727 rfl ?_
  refine V_iconst C dL_acts_729 ?_
  refine V_icmp_ge C 750 dL_acts_730 (by decide) (by omega) (by omega) (fun c => ?_) (fun c => ?_)
  · -- floating
    obtain ⟨ht, hft, hfx, hM, hP⟩ := hM2 (by omega)
    have find : ∀ (m : Nat) (x : Int), 0 ≤ x → x + m = t → V X 753 [some (.ref o), some (.ref w), some (.ref (w + 1)), some (.ref (w + 2)), some (.ref (w + 3)), some (.int z), some (.int (I32 ww)), some (.int (I32 a)), some (.int (I32 b)), some (.int (I32 was)), none, none, none, none, none, some (.int (I32 x)), none, none, none, none, none] [] S n mu la 0 0 := by
      intro m
      induction m with
      | zero =>
        intro x x1 x2
        have ex : x = t := by omega
        subst ex
        have bx := hR (w + 3) x
        have sh : ∀ (m : Nat) (y : Int), x ≤ y → y + m = mu w 4 - 1 → V X 779 [some (.ref o), some (.ref w), some (.ref (w + 1)), some (.ref (w + 2)), some (.ref (w + 3)), some (.int z), some (.int (I32 ww)), some (.int (I32 a)), some (.int (I32 b)), some (.int (I32 was)), none, none, none, none, none, some (.int (I32 x)), some (.int (I32 y)), none, none, none, none] [] S n (jR1 mu w x y) la 0 0 := by
          intro m
          induction m with
          | zero =>
            intro y y1 y2
            have ey : y = mu w 4 - 1 := by omega
            subst ey
            have k4 := jR1_x mu w x (mu w 4 - 1) (show w ≠ w + 3 by omega) 4
            have kp := jR1_x mu w x (mu w 4 - 1) (show w + 2 ≠ w + 3 by omega) (4 * a + 2)
            refine V_iload C dL_acts_779 rfl ?_
            refine V_aload_n C dL_acts_781 rfl ?_
            refine V_iconst C dL_acts_782 ?_
            refine V_iald C dL_acts_783 hg (by first | assumption | decide) (by omega) ?_
            refine V_iconst C dL_acts_784 ?_
            refine V_isub C dL_acts_785 ?_
            refine V_icmp_ge C 807 dL_acts_786 (by decide) (by omega) (by omega) (fun c1 => ?_) (fun c1 => ?_)
            · refine V_aload C dL_acts_807 rfl ?_
              refine V_aload_n C dL_acts_809 rfl ?_
              refine V_iconst C dL_acts_810 ?_
              refine V_iald C dL_acts_811 hg (by first | assumption | decide) (by omega) ?_
              rw [k4]
              refine V_iconst C dL_acts_812 ?_
              refine V_isub C dL_acts_813 ?_
              refine V_aload_n C dL_acts_814 rfl ?_
              refine V_iconst C dL_acts_815 ?_
              refine V_iload C dL_acts_816 rfl ?_
              refine V_imul C dL_acts_818 ?_
              refine V_iconst C dL_acts_819 ?_
              refine V_iadd C dL_acts_820 ?_
              refine V_iald C dL_acts_821 hp (by first | assumption | decide) (by omega) ?_
              rw [kp]
              refine V_iast C dL_acts_822 hf (by first | assumption | decide) (by omega) ?_
              refine V_aload_n C dL_acts_823 rfl ?_
              refine V_iload C dL_acts_824 rfl ?_
              refine V_callSHQ (nA := 2) C dL_acts_826 hM gL_acts_L_raises rfl (by decide +kernel) rfl (by decide) (by decide) (Nat.le_of_ble_eq_true rfl) ⟨by omega, by omega⟩ rfl ?_
              intro n1
              refine V_iload C dL_acts_829 rfl ?_
              refine V_icmp_ne C 838 dL_acts_831 (by decide) (by omega) (by omega) (fun c2 => ?_) (fun c2 => ?_)
              · exact absurd rfl c2
              refine V_iconst C dL_acts_834 ?_
              refine V_goto C 839 dL_acts_835 (by decide) ?_
              refine V_zreturn C E (by first | exact Or.inl rfl | exact Or.inr rfl | simp) dL_acts_839 (by omega) (by omega) ?_
              exact hP n1
            · exact absurd c1 (by omega)
          | succ m ih =>
            intro y y1 y2
            have ih := ih (y + 1) (by omega) (by omega)
            have k4 := jR1_x mu w x y (show w ≠ w + 3 by omega) 4
            refine V_iload C dL_acts_779 rfl ?_
            refine V_aload_n C dL_acts_781 rfl ?_
            refine V_iconst C dL_acts_782 ?_
            refine V_iald C dL_acts_783 hg (by first | assumption | decide) (by omega) ?_
            refine V_iconst C dL_acts_784 ?_
            refine V_isub C dL_acts_785 ?_
            refine V_icmp_ge C 807 dL_acts_786 (by decide) (by omega) (by omega) (fun c1 => ?_) (fun c1 => ?_)
            · exact absurd c1 (by omega)
            refine V_aload C dL_acts_789 rfl ?_
            refine V_iload C dL_acts_791 rfl ?_
            refine V_aload C dL_acts_793 rfl ?_
            refine V_iload C dL_acts_795 rfl ?_
            refine V_iconst C dL_acts_797 ?_
            refine V_iadd C dL_acts_798 ?_
            refine V_iald C dL_acts_799 hf (by first | assumption | decide) (by omega) ?_
            refine V_iast C dL_acts_800 hf (by first | assumption | decide) (by omega) ?_
            rw [jR1_s mu w y1]
            refine V_iinc C dL_acts_801 rfl rfl (by decide) ?_
            refine V_goto C 779 dL_acts_804 (by decide) ?_
            exact ih
        have s9 := sh (mu w 4 - 1 - x).toNat x (by omega) (by omega)
        rw [jR1_0] at s9
        refine V_aload C dL_acts_753 rfl ?_
        refine V_iload C dL_acts_755 rfl ?_
        refine V_iald C dL_acts_757 hf (by first | assumption | decide) (by omega) ?_
        refine V_aload_n C dL_acts_758 rfl ?_
        refine V_iconst C dL_acts_759 ?_
        refine V_iload C dL_acts_760 rfl ?_
        refine V_imul C dL_acts_762 ?_
        refine V_iconst C dL_acts_763 ?_
        refine V_iadd C dL_acts_764 ?_
        refine V_iald C dL_acts_765 hp (by first | assumption | decide) (by omega) ?_
        refine V_icmp_eq C 775 dL_acts_766 (by decide) (by omega) (by omega) (fun c1 => ?_) (fun c1 => ?_)
        · refine V_iload C dL_acts_775 rfl ?_
          refine V_istore C dL_acts_777 rfl (by decide) ?_
          exact s9
        · exact absurd hft c1
      | succ m ih =>
        intro x x1 x2
        have ih := ih (x + 1) (by omega) (by omega)
        have bx := hR (w + 3) x
        have nf := hfx x x1 (by omega)
        refine V_aload C dL_acts_753 rfl ?_
        refine V_iload C dL_acts_755 rfl ?_
        refine V_iald C dL_acts_757 hf (by first | assumption | decide) (by omega) ?_
        refine V_aload_n C dL_acts_758 rfl ?_
        refine V_iconst C dL_acts_759 ?_
        refine V_iload C dL_acts_760 rfl ?_
        refine V_imul C dL_acts_762 ?_
        refine V_iconst C dL_acts_763 ?_
        refine V_iadd C dL_acts_764 ?_
        refine V_iald C dL_acts_765 hp (by first | assumption | decide) (by omega) ?_
        refine V_icmp_eq C 775 dL_acts_766 (by decide) (by omega) (by omega) (fun c1 => ?_) (fun c1 => ?_)
        · exact absurd c1 nf
        refine V_iinc C dL_acts_769 rfl rfl (by decide) ?_
        refine V_goto C 753 dL_acts_772 (by decide) ?_
        exact ih
    have f9 := find t.toNat 0 (by omega) (by omega)
    refine V_iconst C dL_acts_750 ?_
    refine V_istore C dL_acts_751 rfl (by decide) ?_
    exact f9
  · obtain ⟨hM, hP⟩ := hM1 (by omega)
    refine V_aload_n C dL_acts_733 rfl ?_
    refine V_iload C dL_acts_734 rfl ?_
    refine V_callSHQ (nA := 2) C dL_acts_736 hM gL_acts_L_raises rfl (by decide +kernel) rfl (by decide) (by decide) (Nat.le_of_ble_eq_true rfl) ⟨by omega, by omega⟩ rfl ?_
    intro n1
    refine V_ldcI C (v := -10000003) dL_acts_739 (by decide +kernel) ?_
    refine V_icmp_ne C 748 dL_acts_741 (by decide) (by omega) (by omega) (fun c1 => ?_) (fun c1 => ?_)
    · exact absurd rfl c1
    refine V_iconst C dL_acts_744 ?_
    refine V_goto C 749 dL_acts_745 (by decide) ?_
    refine V_zreturn C E (by first | exact Or.inl rfl | exact Or.inr rfl | simp) dL_acts_749 (by omega) (by omega) ?_
    exact hP n1
theorem a_11 (C : Ok X cL_acts wsL_acts RL (some .boolean) 9 21) (E : En X 1 6 Po) (hcl : (xR X).cells = 1) (hsl : (xR X).slots = 6) (hL : LwS S w) (hR : R32 mu) (ha : 0 ≤ a ∧ a < mu w 2) (hm : mu w 2 ≤ 5) (hs : 0 ≤ mu w 3 ∧ mu w 3 ≤ 16) (hw : 0 ≤ ww ∧ ww < 100000) (hw2 : 0 ≤ was ∧ was ≤ 2) {m1 m3 : Mem} (hK : jK mu w a m1)
    (hM : Ct (xG X) (xL X) yL_closesOf wsL_closesOf 8 1 6 [.ref o, .int (I32 a)] S n m1 la (Lq S was m3 la))
    (hP : ∀ n1 : Nat, Po (some (.int (I32 1))) S n1 m3 la) :
    V X 840 [some (.ref o), some (.ref w), some (.ref (w + 1)), some (.ref (w + 2)), some (.ref (w + 3)), some (.int z), some (.int (I32 ww)), some (.int (I32 a)), some (.int (I32 b)), some (.int (I32 was)), none, none, none, none, none, none, none, none, none, none, none] [] S n mu la 0 0 := by
  have two : V X 879 [some (.ref o), some (.ref w), some (.ref (w + 1)), some (.ref (w + 2)), some (.ref (w + 3)), some (.int z), some (.int (I32 ww)), some (.int (I32 a)), some (.int (I32 b)), some (.int (I32 was)), none, none, none, none, none, none, none, none, none, none, none] [] S n m1 la 0 0 := by
    refine V_aload_n C dL_acts_879 rfl ?_
    refine V_iload C dL_acts_880 rfl ?_
    refine V_callSHQ (nA := 2) C dL_acts_882 hM gL_acts_L_closesOf rfl (by decide +kernel) rfl (by decide) (by decide) (Nat.le_of_ble_eq_true rfl) ⟨by omega, by omega⟩ rfl ?_
    intro n1
    refine V_iload C dL_acts_885 rfl ?_
    refine V_icmp_ne C 894 dL_acts_887 (by decide) (by omega) (by omega) (fun c1 => ?_) (fun c1 => ?_)
    · exact absurd rfl c1
    refine V_iconst C dL_acts_890 ?_
    refine V_goto C 895 dL_acts_891 (by decide) ?_
    refine V_zreturn C E (by first | exact Or.inl rfl | exact Or.inr rfl | simp) dL_acts_895 (by omega) (by omega) ?_
    exact hP n1
  refine V_aload_n C dL_acts_840 rfl ?_
  refine V_aload_n C dL_acts_841 rfl ?_
  refine V_aload_n C dL_acts_842 rfl ?_
  refine V_aload C dL_acts_843 rfl ?_
  refine V_iload C dL_acts_845 rfl ?_
  refine V_callS2D (nA := 5) C dL_acts_847 (l_takes C.gp hL hR ha hm hs hK) gL_acts_L_takes rfl (by decide +kernel) rfl (by decide) (by decide) (Nat.le_of_ble_eq_true rfl) ⟨by omega, by omega⟩ rfl ?_
  refine V_iload C dL_acts_850 rfl ?_
  refine V_iconst C dL_acts_852 ?_
  refine V_irem C dL_acts_853 (by omega) (by omega) ?_
  refine V_if_le C 879 dL_acts_854 (by decide) (by omega) (fun c => ?_) (fun c => ?_)
  · exact two
  refine V_iload C dL_acts_857 rfl ?_
  refine V_if_ne C 879 dL_acts_859 (by decide) (by omega) (fun c1 => ?_) (fun c1 => ?_)
  · exact two
  rw [c1] at hM
  refine V_aload_n C dL_acts_862 rfl ?_
  refine V_iload C dL_acts_863 rfl ?_
  refine V_callSHQ (nA := 2) C dL_acts_865 hM gL_acts_L_closesOf rfl (by decide +kernel) rfl (by decide) (by decide) (Nat.le_of_ble_eq_true rfl) ⟨by omega, by omega⟩ rfl ?_
  intro n1
  refine V_if_ne C 875 dL_acts_868 (by decide) (by omega) (fun c2 => ?_) (fun c2 => ?_)
  · exact absurd rfl c2
  refine V_iconst C dL_acts_871 ?_
  refine V_goto C 895 dL_acts_872 (by decide) ?_
  refine V_zreturn C E (by first | exact Or.inl rfl | exact Or.inr rfl | simp) dL_acts_895 (by omega) (by omega) ?_
  exact hP n1
theorem a_12 (C : Ok X cL_acts wsL_acts RL (some .boolean) 9 21) (E : En X 1 6 Po) (hcl : (xR X).cells = 1) (hsl : (xR X).slots = 6) (hL : LwS S w) (hR : R32 mu) (ha : 0 ≤ a ∧ a < mu w 2) (hm : mu w 2 ≤ 5) (hw : 0 ≤ ww ∧ ww < 100000) (hw2 : 0 ≤ was ∧ was ≤ 2) {t : Int} (ht : ww / 25 % 4 = t) {m3 : Mem} (hp4 : was ≠ 0 → 0 ≤ mu (w + 2) (4 * a + 3) ∧ mu (w + 2) (4 * a + 3) ≤ 100)
    (hM1 : (was = 0 ∨ jT mu w (mu (w + 2) (4 * a + 2)) ≤ t) → Ct (xG X) (xL X) yL_moves wsL_moves 8 1 6 [.ref o, .int (I32 a), .int (I32 t)] S n mu la (Lq S (if was = 0 then -10000003 else -10000002) mu la) ∧ ∀ n1 : Nat, Po (some (.int (I32 1))) S n1 mu la)
    (hM2 : ¬ (was = 0 ∨ jT mu w (mu (w + 2) (4 * a + 2)) ≤ t) → (∀ k : Int, 0 ≤ k → k < mu w 2 → mu (w + 2) (4 * k + 2) = mu (w + 2) (4 * a + 2) → -1000 ≤ mu (w + 2) (4 * k + 3) ∧ mu (w + 2) (4 * k + 3) ≤ 1000) ∧ Ct (xG X) (xL X) yL_moves wsL_moves 8 1 6 [.ref o, .int (I32 a), .int (I32 t)] S n (jVs mu w a t) la (Lq S (mu (w + 2) (4 * a + 3)) m3 la) ∧ ∀ n1 : Nat, Po (some (.int (I32 1))) S n1 m3 la) :
    V X 896 [some (.ref o), some (.ref w), some (.ref (w + 1)), some (.ref (w + 2)), some (.ref (w + 3)), some (.int z), some (.int (I32 ww)), some (.int (I32 a)), some (.int (I32 b)), some (.int (I32 was)), none, none, none, none, none, none, none, none, none, none, none] [] S n mu la 0 0 := by
  have hg := hL.1
  have hp := hL.2.2.1
  have bt : 0 ≤ t ∧ t < 4 := by omega
  have bp := hR (w + 2) (4 * a + 2)
  have tb := jT_b (mu := mu) (w := w) (gr := mu (w + 2) (4 * a + 2)) (by omega)
  have bf := hR (w + 2) (4 * a + 3)
  refine V_iload C dL_acts_896 rfl ?_
  refine V_bipush C dL_acts_898 (by decide +kernel) ?_
  refine V_idiv C dL_acts_900 (by omega) (by omega) ?_
  refine V_iconst C dL_acts_901 ?_
  refine V_irem C dL_acts_902 (by omega) (by omega) ?_
  rw [ht]
  clear ht hw
  generalize eT : jT mu w (mu (w + 2) (4 * a + 2)) = T at *
  generalize egr : mu (w + 2) (4 * a + 2) = gr at *
  have bad : (was = 0 ∨ T ≤ t) → V X 928 [some (.ref o), some (.ref w), some (.ref (w + 1)), some (.ref (w + 2)), some (.ref (w + 3)), some (.int z), some (.int (I32 ww)), some (.int (I32 a)), some (.int (I32 b)), some (.int (I32 was)), none, none, none, none, none, none, some (.int (I32 t)), none, none, none, none] [] S n mu la 0 0 := by
    intro q
    obtain ⟨hM, hP⟩ := hM1 q
    refine V_aload_n C dL_acts_928 rfl ?_
    refine V_iload C dL_acts_929 rfl ?_
    refine V_iload C dL_acts_931 rfl ?_
    refine V_callSHQ (nA := 3) C dL_acts_933 hM gL_acts_L_moves rfl (by decide +kernel) rfl (by decide) (by decide) (Nat.le_of_ble_eq_true rfl) ⟨by omega, by omega⟩ rfl ?_
    intro n1
    refine V_iload C dL_acts_936 rfl ?_
    refine V_if_ne C 946 dL_acts_938 (by decide) (by omega) (fun c1 => ?_) (fun c1 => ?_)
    · rw [if_neg c1]
      refine V_ldcI C (v := -10000002) dL_acts_946 (by decide +kernel) ?_
      refine V_icmp_ne C 955 dL_acts_948 (by decide) (by omega) (by omega) (fun c2 => ?_) (fun c2 => ?_)
      · exact absurd rfl c2
      refine V_iconst C dL_acts_951 ?_
      refine V_goto C 956 dL_acts_952 (by decide) ?_
      refine V_zreturn C E (by first | exact Or.inl rfl | exact Or.inr rfl | simp) dL_acts_956 (by omega) (by omega) ?_
      exact hP n1
    · rw [if_pos c1]
      refine V_ldcI C (v := -10000003) dL_acts_941 (by decide +kernel) ?_
      refine V_goto C 948 dL_acts_943 (by decide) ?_
      refine V_icmp_ne C 955 dL_acts_948 (by decide) (by omega) (by omega) (fun c2 => ?_) (fun c2 => ?_)
      · exact absurd rfl c2
      refine V_iconst C dL_acts_951 ?_
      refine V_goto C 956 dL_acts_952 (by decide) ?_
      refine V_zreturn C E (by first | exact Or.inl rfl | exact Or.inr rfl | simp) dL_acts_956 (by omega) (by omega) ?_
      exact hP n1
  have good : ¬ (was = 0 ∨ T ≤ t) → V X 957 [some (.ref o), some (.ref w), some (.ref (w + 1)), some (.ref (w + 2)), some (.ref (w + 3)), some (.int z), some (.int (I32 ww)), some (.int (I32 a)), some (.int (I32 b)), some (.int (I32 was)), none, none, none, none, none, none, some (.int (I32 t)), none, none, none, none] [] S n mu la 0 0 := by
    intro q
    obtain ⟨hpl, hM, hP⟩ := hM2 q
    have hp4 := hp4 (fun z => q (Or.inl z))
    generalize efr : mu (w + 2) (4 * a + 3) = from0 at *
    have loop : ∀ (m : Nat) (k : Int), 0 ≤ k → k + m = mu w 2 → ∀ r19 r20 : Option Value, V X 970 [some (.ref o), some (.ref w), some (.ref (w + 1)), some (.ref (w + 2)), some (.ref (w + 3)), some (.int z), some (.int (I32 ww)), some (.int (I32 a)), some (.int (I32 b)), some (.int (I32 was)), none, none, none, none, none, none, some (.int (I32 t)), some (.int (I32 from0)), some (.int (I32 k)), r19, r20] [] S n (jV1 mu w a t k) la 0 0 := by
      intro m
      induction m with
      | zero =>
        intro k y1 y2 r19 r20
        have ek : k = mu w 2 := by omega
        subst ek
        have k2 := jV1_x mu w a t (mu w 2) (c := w) (i := 2) (by omega)
        refine V_iload C dL_acts_970 rfl ?_
        refine V_aload_n C dL_acts_972 rfl ?_
        refine V_iconst C dL_acts_973 ?_
        refine V_iald C dL_acts_974 hg (by first | assumption | decide) (by omega) ?_
        refine V_icmp_ge C 1085 dL_acts_975 (by decide) (by omega) (by omega) (fun c1 => ?_) (fun c1 => ?_)
        · refine V_aload_n C dL_acts_1085 rfl ?_
          refine V_iconst C dL_acts_1086 ?_
          refine V_iload C dL_acts_1087 rfl ?_
          refine V_imul C dL_acts_1089 ?_
          refine V_iconst C dL_acts_1090 ?_
          refine V_iadd C dL_acts_1091 ?_
          refine V_iload C dL_acts_1092 rfl ?_
          refine V_iast C dL_acts_1094 hp (by first | assumption | decide) (by omega) ?_
          refine V_aload_n C dL_acts_1095 rfl ?_
          refine V_iload C dL_acts_1096 rfl ?_
          refine V_iload C dL_acts_1098 rfl ?_
          refine V_callSHQ (nA := 3) C dL_acts_1100 hM gL_acts_L_moves rfl (by decide +kernel) rfl (by decide) (by decide) (Nat.le_of_ble_eq_true rfl) ⟨by omega, by omega⟩ rfl ?_
          intro n1
          refine V_iload C dL_acts_1103 rfl ?_
          refine V_icmp_ne C 1112 dL_acts_1105 (by decide) (by omega) (by omega) (fun c2 => ?_) (fun c2 => ?_)
          · exact absurd rfl c2
          refine V_iconst C dL_acts_1108 ?_
          refine V_goto C 1113 dL_acts_1109 (by decide) ?_
          refine V_zreturn C E (by first | exact Or.inl rfl | exact Or.inr rfl | simp) dL_acts_1113 (by omega) (by omega) ?_
          exact hP n1
        · exact absurd c1 (by omega)
      | succ m ih =>
        intro k y1 y2 r19 r20
        have ih := ih (k + 1) (by omega) (by omega)
        have k2 := jV1_x mu w a t k (c := w) (i := 2) (by omega)
        have kk2 := jV1_x mu w a t k (c := w + 2) (i := 4 * k + 2) (by omega)
        have kk3 := jV1_x mu w a t k (c := w + 2) (i := 4 * k + 3) (by omega)
        have ka2 := jV1_x mu w a t k (c := w + 2) (i := 4 * a + 2) (by omega)
        rw [egr] at ka2
        have bk2 := hR (w + 2) (4 * k + 2)
        have bk3 := hR (w + 2) (4 * k + 3)
        have hpk := hpl k y1 (by omega)
        -- the store
        have sto : ∀ (s v d : Int), (s = if mu (w + 2) (4 * k + 2) = gr ∧ k ≠ a then 1 else 0) → (mu (w + 2) (4 * k + 3) + d = if mu (w + 2) (4 * k + 2) = gr ∧ k ≠ a then mvX from0 t (mu (w + 2) (4 * k + 3)) else mu (w + 2) (4 * k + 3)) → V X 1077 [some (.ref o), some (.ref w), some (.ref (w + 1)), some (.ref (w + 2)), some (.ref (w + 3)), some (.int z), some (.int (I32 ww)), some (.int (I32 a)), some (.int (I32 b)), some (.int (I32 was)), none, none, none, none, none, none, some (.int (I32 t)), some (.int (I32 from0)), some (.int (I32 k)), some (.int (I32 v)), some (.int (I32 s))] [.int (I32 d), .int (I32 (mu (w + 2) (4 * k + 3))), .int (I32 (4 * k + 3)), .ref (w + 2)] S n (jV1 mu w a t k) la 0 0 := by
          intro s v d hs hd
          refine V_iadd C dL_acts_1077 ?_
          refine V_iast C dL_acts_1078 hp (by first | assumption | decide) (by omega) ?_
          rw [jV1_s mu w y1 (by rw [hd, egr, efr])]
          refine V_iinc C dL_acts_1079 rfl rfl (by decide) ?_
          refine V_goto C 970 dL_acts_1082 (by decide) ?_
          exact ih _ _
        -- behind the choice
        have mid : ∀ s : Int, (s = if mu (w + 2) (4 * k + 2) = gr ∧ k ≠ a then 1 else 0) → V X 1019 [some (.ref o), some (.ref w), some (.ref (w + 1)), some (.ref (w + 2)), some (.ref (w + 3)), some (.int z), some (.int (I32 ww)), some (.int (I32 a)), some (.int (I32 b)), some (.int (I32 was)), none, none, none, none, none, none, some (.int (I32 t)), some (.int (I32 from0)), some (.int (I32 k)), some (.int (I32 (mu (w + 2) (4 * k + 3)))), r20] [.int (I32 s)] S n (jV1 mu w a t k) la 0 0 := by
          intro s hs
          have sto := fun d => sto s (mu (w + 2) (4 * k + 3)) d hs
          have bs : 0 ≤ s ∧ s ≤ 1 := by rw [hs]; split <;> omega
          refine V_istore C dL_acts_1019 rfl (by decide) ?_
          refine V_aload_n C dL_acts_1021 rfl ?_
          refine V_iconst C dL_acts_1022 ?_
          refine V_iload C dL_acts_1023 rfl ?_
          refine V_imul C dL_acts_1025 ?_
          refine V_iconst C dL_acts_1026 ?_
          refine V_iadd C dL_acts_1027 ?_
          refine V_dup2 C dL_acts_1028 rfl rfl ?_
          refine V_iald C dL_acts_1029 hp (by first | assumption | decide) (by omega) ?_
          rw [kk3]
          by_cases hs1 : mu (w + 2) (4 * k + 2) = gr ∧ k ≠ a
          · rw [if_pos hs1] at hs
            simp only [if_pos hs1] at sto
            have hpk := hpk hs1.1
            have tail : ¬ (from0 < mu (w + 2) (4 * k + 3) ∧ mu (w + 2) (4 * k + 3) ≤ t) → V X 1053 [some (.ref o), some (.ref w), some (.ref (w + 1)), some (.ref (w + 2)), some (.ref (w + 3)), some (.int z), some (.int (I32 ww)), some (.int (I32 a)), some (.int (I32 b)), some (.int (I32 was)), none, none, none, none, none, none, some (.int (I32 t)), some (.int (I32 from0)), some (.int (I32 k)), some (.int (I32 (mu (w + 2) (4 * k + 3)))), some (.int (I32 s))] [.int (I32 (mu (w + 2) (4 * k + 3))), .int (I32 (4 * k + 3)), .ref (w + 2)] S n (jV1 mu w a t k) la 0 0 := by
              intro hn
              refine V_iload C dL_acts_1053 rfl ?_
              refine V_if_eq C 1076 dL_acts_1055 (by decide) (by omega) (fun c1 => ?_) (fun c1 => ?_)
              · exact absurd c1 (by omega)
              refine V_iload C dL_acts_1058 rfl ?_
              refine V_iload C dL_acts_1060 rfl ?_
              refine V_icmp_ge C 1076 dL_acts_1062 (by decide) (by omega) (by omega) (fun c2 => ?_) (fun c2 => ?_)
              · refine V_iconst C dL_acts_1076 ?_
                exact sto 0 (by unfold mvX; rw [if_neg hn, if_neg (by omega)]; omega)
              refine V_iload C dL_acts_1065 rfl ?_
              refine V_iload C dL_acts_1067 rfl ?_
              refine V_icmp_lt C 1076 dL_acts_1069 (by decide) (by omega) (by omega) (fun c3 => ?_) (fun c3 => ?_)
              · refine V_iconst C dL_acts_1076 ?_
                exact sto 0 (by unfold mvX; rw [if_neg hn, if_neg (by omega)]; omega)
              refine V_iconst C dL_acts_1072 ?_
              refine V_goto C 1077 dL_acts_1073 (by decide) ?_
              exact sto 1 (by unfold mvX; rw [if_neg hn, if_pos (by omega)])
            refine V_iload C dL_acts_1030 rfl ?_
            refine V_if_eq C 1053 dL_acts_1032 (by decide) (by omega) (fun c1 => ?_) (fun c1 => ?_)
            · exact absurd c1 (by omega)
            refine V_iload C dL_acts_1035 rfl ?_
            refine V_iload C dL_acts_1037 rfl ?_
            refine V_icmp_le C 1053 dL_acts_1039 (by decide) (by omega) (by omega) (fun c2 => ?_) (fun c2 => ?_)
            · exact tail (by omega)
            refine V_iload C dL_acts_1042 rfl ?_
            refine V_iload C dL_acts_1044 rfl ?_
            refine V_icmp_gt C 1053 dL_acts_1046 (by decide) (by omega) (by omega) (fun c3 => ?_) (fun c3 => ?_)
            · exact tail (by omega)
            refine V_iconst C dL_acts_1049 ?_
            refine V_goto C 1077 dL_acts_1050 (by decide) ?_
            exact sto (-1) (by unfold mvX; rw [if_pos (by omega)]; omega)
          · rw [if_neg hs1] at hs
            simp only [if_neg hs1] at sto
            refine V_iload C dL_acts_1030 rfl ?_
            refine V_if_eq C 1053 dL_acts_1032 (by decide) (by omega) (fun c1 => ?_) (fun c1 => ?_)
            · refine V_iload C dL_acts_1053 rfl ?_
              refine V_if_eq C 1076 dL_acts_1055 (by decide) (by omega) (fun c2 => ?_) (fun c2 => ?_)
              · refine V_iconst C dL_acts_1076 ?_
                exact sto 0 (by omega)
              · exact absurd c1 (by omega)
            · exact absurd hs (by omega)
        refine V_iload C dL_acts_970 rfl ?_
        refine V_aload_n C dL_acts_972 rfl ?_
        refine V_iconst C dL_acts_973 ?_
        refine V_iald C dL_acts_974 hg (by first | assumption | decide) (by omega) ?_
        refine V_icmp_ge C 1085 dL_acts_975 (by decide) (by omega) (by omega) (fun c1 => ?_) (fun c1 => ?_)
        · exact absurd c1 (by omega)
        refine V_aload_n C dL_acts_978 rfl ?_
        refine V_iconst C dL_acts_979 ?_
        refine V_iload C dL_acts_980 rfl ?_
        refine V_imul C dL_acts_982 ?_
        refine V_iconst C dL_acts_983 ?_
        refine V_iadd C dL_acts_984 ?_
        refine V_iald C dL_acts_985 hp (by first | assumption | decide) (by omega) ?_
        rw [kk3]
        refine V_istore C dL_acts_986 rfl (by decide) ?_
        refine V_aload_n C dL_acts_988 rfl ?_
        refine V_iconst C dL_acts_989 ?_
        refine V_iload C dL_acts_990 rfl ?_
        refine V_imul C dL_acts_992 ?_
        refine V_iconst C dL_acts_993 ?_
        refine V_iadd C dL_acts_994 ?_
        refine V_iald C dL_acts_995 hp (by first | assumption | decide) (by omega) ?_
        rw [kk2]
        refine V_aload_n C dL_acts_996 rfl ?_
        refine V_iconst C dL_acts_997 ?_
        refine V_iload C dL_acts_998 rfl ?_
        refine V_imul C dL_acts_1000 ?_
        refine V_iconst C dL_acts_1001 ?_
        refine V_iadd C dL_acts_1002 ?_
        refine V_iald C dL_acts_1003 hp (by first | assumption | decide) (by omega) ?_
        rw [ka2]
        refine V_icmp_ne C 1018 dL_acts_1004 (by decide) (by omega) (by omega) (fun c2 => ?_) (fun c2 => ?_)
        · refine V_iconst C dL_acts_1018 ?_
          exact mid 0 (by rw [if_neg (fun q => c2 q.1)])
        refine V_iload C dL_acts_1007 rfl ?_
        refine V_iload C dL_acts_1009 rfl ?_
        refine V_icmp_eq C 1018 dL_acts_1011 (by decide) (by omega) (by omega) (fun c3 => ?_) (fun c3 => ?_)
        · refine V_iconst C dL_acts_1018 ?_
          exact mid 0 (by rw [if_neg (fun q => q.2 c3)])
        refine V_iconst C dL_acts_1014 ?_
        refine V_goto C 1019 dL_acts_1015 (by decide) ?_
        exact mid 1 (by rw [if_pos ⟨c2, c3⟩])
    have l9 := loop (mu w 2).toNat 0 (by omega) (by omega) none none
    rw [jV1_0] at l9
    refine V_aload_n C dL_acts_957 rfl ?_
    refine V_iconst C dL_acts_958 ?_
    refine V_iload C dL_acts_959 rfl ?_
    refine V_imul C dL_acts_961 ?_
    refine V_iconst C dL_acts_962 ?_
    refine V_iadd C dL_acts_963 ?_
    refine V_iald C dL_acts_964 hp (by first | assumption | decide) (by omega) ?_
    rw [efr]
    refine V_istore C dL_acts_965 rfl (by decide) ?_
    refine V_iconst C dL_acts_967 ?_
    refine V_istore C dL_acts_968 rfl (by decide) ?_
    exact l9
  refine V_istore C dL_acts_903 rfl (by decide) ?_
  refine V_iload C dL_acts_905 rfl ?_
  refine V_if_eq C 928 dL_acts_907 (by decide) (by omega) (fun c => ?_) (fun c => ?_)
  · exact bad (Or.inl c)
  refine V_iload C dL_acts_910 rfl ?_
  refine V_aload_n C dL_acts_912 rfl ?_
  refine V_aload_n C dL_acts_913 rfl ?_
  refine V_aload_n C dL_acts_914 rfl ?_
  refine V_iconst C dL_acts_915 ?_
  refine V_iload C dL_acts_916 rfl ?_
  refine V_imul C dL_acts_918 ?_
  refine V_iconst C dL_acts_919 ?_
  refine V_iadd C dL_acts_920 ?_
  refine V_iald C dL_acts_921 hp (by first | assumption | decide) (by omega) ?_
  rw [egr]
  refine V_callSD (nA := 3) C dL_acts_922 (l_tabs C.gp hL hR (by omega) bp) gL_acts_L_tabs rfl (by decide +kernel) rfl (by decide) (by decide) (Nat.le_of_ble_eq_true rfl) ⟨by omega, by omega⟩ rfl ?_
  rw [eT]
  refine V_icmp_lt C 957 dL_acts_925 (by decide) (by omega) (by omega) (fun c1 => ?_) (fun c1 => ?_)
  · exact good (fun q => q.elim c (fun q => by omega))
  exact bad (Or.inr (by omega))
theorem a_13 (C : Ok X cL_acts wsL_acts RL (some .boolean) 9 21) (E : En X 1 6 Po) (hcl : (xR X).cells = 1) (hsl : (xR X).slots = 6) (hL : LwS S w) (hR : R32 mu) (ha : 0 ≤ a ∧ a < 5) (hs : 0 ≤ mu w 3 ∧ mu w 3 ≤ 16) (hw : 0 ≤ ww ∧ ww < 100000) {i : Int} (hi : jS mu w (if mu (w + 2) (4 * a + 2) < 0 then 9 else mu (w + 2) (4 * a + 2)) = i) {m3 : Int → Mem}
    (hM1 : i < 1 → Ct (xG X) (xL X) yL_weighs wsL_weighs 8 1 6 [.ref o, .int (I32 a), .int (I32 5)] S n mu la (Lq S (-10000003) mu la) ∧ ∀ n1 : Nat, Po (some (.int (I32 1))) S n1 mu la)
    (hM2 : ¬ i < 1 → ∀ v : Int, 1 ≤ v ∧ v ≤ 1000 → Ct (xG X) (xL X) yL_weighs wsL_weighs 8 1 6 [.ref o, .int (I32 a), .int (I32 v)] S n (up mu (w + 1) (3 * i + 1) v) la (Lq S (mu (w + 1) (3 * i + 1)) (m3 v) la) ∧ ∀ n1 : Nat, Po (some (.int (I32 1))) S n1 (m3 v) la) :
    V X 1114 [some (.ref o), some (.ref w), some (.ref (w + 1)), some (.ref (w + 2)), some (.ref (w + 3)), some (.int z), some (.int (I32 ww)), some (.int (I32 a)), some (.int (I32 b)), some (.int (I32 was)), none, none, none, none, none, none, none, none, none, none, none] [] S n mu la 0 0 := by
  have hq := hL.2.1
  have hp := hL.2.2.1
  have bp := hR (w + 2) (4 * a + 2)
  have sb := jS_b (mu := mu) (w := w) (gr := if mu (w + 2) (4 * a + 2) < 0 then 9 else mu (w + 2) (4 * a + 2)) hs
  rw [hi] at sb
  have rest : V X 1143 [some (.ref o), some (.ref w), some (.ref (w + 1)), some (.ref (w + 2)), some (.ref (w + 3)), some (.int z), some (.int (I32 ww)), some (.int (I32 a)), some (.int (I32 b)), some (.int (I32 was)), none, none, none, none, none, none, none, none, none, none, none] [.int (I32 i)] S n mu la 0 0 := by
    have bw := hR (w + 1) (3 * i + 1)
    refine V_istore C dL_acts_1143 rfl (by decide) ?_
    refine V_iload C dL_acts_1145 rfl ?_
    refine V_iconst C dL_acts_1147 ?_
    refine V_icmp_ge C 1169 dL_acts_1148 (by decide) (by omega) (by omega) (fun c => ?_) (fun c => ?_)
    · have hM2 := hM2 (by omega)
      have fin : ∀ v : Int, 1 ≤ v ∧ v ≤ 1000 → V X 1208 [some (.ref o), some (.ref w), some (.ref (w + 1)), some (.ref (w + 2)), some (.ref (w + 3)), some (.int z), some (.int (I32 ww)), some (.int (I32 a)), some (.int (I32 b)), some (.int (I32 was)), none, none, none, none, none, none, none, none, some (.int (I32 i)), some (.int (I32 (mu (w + 1) (3 * i + 1)))), none] [] S n (up mu (w + 1) (3 * i + 1) v) la 0 0 := by
        intro v hv
        obtain ⟨hM, hP⟩ := hM2 v hv
        have e9 : up mu (w + 1) (3 * i + 1) v (w + 1) (3 * i + 1) = v := up_s _ _ _ _
        refine V_aload_n C dL_acts_1208 rfl ?_
        refine V_iload C dL_acts_1209 rfl ?_
        refine V_aload_n C dL_acts_1211 rfl ?_
        refine V_iconst C dL_acts_1212 ?_
        refine V_iload C dL_acts_1213 rfl ?_
        refine V_imul C dL_acts_1215 ?_
        refine V_iconst C dL_acts_1216 ?_
        refine V_iadd C dL_acts_1217 ?_
        refine V_iald C dL_acts_1218 hq (by first | assumption | decide) (by omega) ?_
        rw [e9]
        refine V_callSHQ (nA := 3) C dL_acts_1219 hM gL_acts_L_weighs rfl (by decide +kernel) rfl (by decide) (by decide) (Nat.le_of_ble_eq_true rfl) ⟨by omega, by omega⟩ rfl ?_
        intro n1
        refine V_iload C dL_acts_1222 rfl ?_
        refine V_icmp_ne C 1231 dL_acts_1224 (by decide) (by omega) (by omega) (fun c2 => ?_) (fun c2 => ?_)
        · exact absurd rfl c2
        refine V_iconst C dL_acts_1227 ?_
        refine V_goto C 1232 dL_acts_1228 (by decide) ?_
        refine V_zreturn C E (by first | exact Or.inl rfl | exact Or.inr rfl | simp) dL_acts_1232 (by omega) (by omega) ?_
        exact hP n1
      refine V_aload_n C dL_acts_1169 rfl ?_
      refine V_iconst C dL_acts_1170 ?_
      refine V_iload C dL_acts_1171 rfl ?_
      refine V_imul C dL_acts_1173 ?_
      refine V_iconst C dL_acts_1174 ?_
      refine V_iadd C dL_acts_1175 ?_
      refine V_iald C dL_acts_1176 hq (by first | assumption | decide) (by omega) ?_
      refine V_istore C dL_acts_1177 rfl (by decide) ?_
      refine V_aload_n C dL_acts_1179 rfl ?_
      refine V_iconst C dL_acts_1180 ?_
      refine V_iload C dL_acts_1181 rfl ?_
      refine V_imul C dL_acts_1183 ?_
      refine V_iconst C dL_acts_1184 ?_
      refine V_iadd C dL_acts_1185 ?_
      refine V_iconst C dL_acts_1186 ?_
      refine V_iload C dL_acts_1187 rfl ?_
      refine V_iconst C dL_acts_1189 ?_
      refine V_idiv C dL_acts_1190 (by omega) (by omega) ?_
      refine V_iload C dL_acts_1191 rfl ?_
      refine V_iconst C dL_acts_1193 ?_
      refine V_irem C dL_acts_1194 (by omega) (by omega) ?_
      refine V_if_ne C 1202 dL_acts_1195 (by decide) (by omega) (fun c1 => ?_) (fun c1 => ?_)
      · refine V_sipush C dL_acts_1202 (by decide +kernel) ?_
        refine V_irem C dL_acts_1205 (by omega) (by omega) ?_
        refine V_iadd C dL_acts_1206 ?_
        refine V_iast C dL_acts_1207 hq (by first | assumption | decide) (by omega) ?_
        exact fin _ ⟨by omega, by omega⟩
      · refine V_iconst C dL_acts_1198 ?_
        refine V_goto C 1205 dL_acts_1199 (by decide) ?_
        refine V_irem C dL_acts_1205 (by omega) (by omega) ?_
        refine V_iadd C dL_acts_1206 ?_
        refine V_iast C dL_acts_1207 hq (by first | assumption | decide) (by omega) ?_
        exact fin _ ⟨by omega, by omega⟩
    · obtain ⟨hM, hP⟩ := hM1 (by omega)
      refine V_aload_n C dL_acts_1151 rfl ?_
      refine V_iload C dL_acts_1152 rfl ?_
      refine V_iconst C dL_acts_1154 ?_
      refine V_callSHQ (nA := 3) C dL_acts_1155 hM gL_acts_L_weighs rfl (by decide +kernel) rfl (by decide) (by decide) (Nat.le_of_ble_eq_true rfl) ⟨by omega, by omega⟩ rfl ?_
      intro n1
      refine V_ldcI C (v := -10000003) dL_acts_1158 (by decide +kernel) ?_
      refine V_icmp_ne C 1167 dL_acts_1160 (by decide) (by omega) (by omega) (fun c2 => ?_) (fun c2 => ?_)
      · exact absurd rfl c2
      refine V_iconst C dL_acts_1163 ?_
      refine V_goto C 1168 dL_acts_1164 (by decide) ?_
      refine V_zreturn C E (by first | exact Or.inl rfl | exact Or.inr rfl | simp) dL_acts_1168 (by omega) (by omega) ?_
      exact hP n1
  refine V_aload_n C dL_acts_1114 rfl ?_
  refine V_aload_n C dL_acts_1115 rfl ?_
  refine V_aload_n C dL_acts_1116 rfl ?_
  refine V_iconst C dL_acts_1117 ?_
  refine V_iload C dL_acts_1118 rfl ?_
  refine V_imul C dL_acts_1120 ?_
  refine V_iconst C dL_acts_1121 ?_
  refine V_iadd C dL_acts_1122 ?_
  refine V_iald C dL_acts_1123 hp (by first | assumption | decide) (by omega) ?_
  refine V_if_ge C 1132 dL_acts_1124 (by decide) (by omega) (fun c => ?_) (fun c => ?_)
  · rw [if_neg (by omega)] at hi
    have q := l_signOf (l := xL X) (n := n) (la := la) C.gp hL hR hs bp
    rw [hi] at q
    refine V_aload_n C dL_acts_1132 rfl ?_
    refine V_iconst C dL_acts_1133 ?_
    refine V_iload C dL_acts_1134 rfl ?_
    refine V_imul C dL_acts_1136 ?_
    refine V_iconst C dL_acts_1137 ?_
    refine V_iadd C dL_acts_1138 ?_
    refine V_iald C dL_acts_1139 hp (by first | assumption | decide) (by omega) ?_
    refine V_callSD (nA := 3) C dL_acts_1140 q gL_acts_L_signOf rfl (by decide +kernel) rfl (by decide) (by decide) (Nat.le_of_ble_eq_true rfl) ⟨by omega, by omega⟩ rfl ?_
    exact rest
  · rw [if_pos (by omega)] at hi
    have q := l_signOf (l := xL X) (n := n) (la := la) C.gp hL hR hs (gr := 9) ⟨by omega, by omega⟩
    rw [hi] at q
    refine V_bipush C dL_acts_1127 (by decide +kernel) ?_
    refine V_goto C 1140 dL_acts_1129 (by decide) ?_
    refine V_callSD (nA := 3) C dL_acts_1140 q gL_acts_L_signOf rfl (by decide +kernel) rfl (by decide) (by decide) (Nat.le_of_ble_eq_true rfl) ⟨by omega, by omega⟩ rfl ?_
    exact rest
theorem a_15 (C : Ok X cL_acts wsL_acts RL (some .boolean) 9 21) (E : En X 1 6 Po) (hcl : (xR X).cells = 1) (hsl : (xR X).slots = 6) (hL : LwS S w) (hR : R32 mu) (ha : 0 ≤ a ∧ a < 5) (hw2 : 0 ≤ was ∧ was ≤ 2) {m3 : Mem}
    (hM1 : was = 0 → Ct (xG X) (xL X) yL_wakes wsL_wakes 8 1 6 [.ref o, .int (I32 a)] S n mu la (Lq S (-10000003) mu la) ∧ ∀ n1 : Nat, Po (some (.int (I32 1))) S n1 mu la)
    (hM2 : ¬ was = 0 → (0 ≤ mu (w + 2) (4 * a + 2) ∧ mu (w + 2) (4 * a + 2) < 5) ∧ Ct (xG X) (xL X) yL_wakes wsL_wakes 8 1 6 [.ref o, .int (I32 a)] S n (up mu (w + 2) (20 + mu (w + 2) (4 * a + 2)) a) la (Lq S (mu (w + 2) (20 + mu (w + 2) (4 * a + 2))) m3 la) ∧ ∀ n1 : Nat, Po (some (.int (I32 1))) S n1 m3 la) :
    V X 1233 [some (.ref o), some (.ref w), some (.ref (w + 1)), some (.ref (w + 2)), some (.ref (w + 3)), some (.int z), some (.int (I32 ww)), some (.int (I32 a)), some (.int (I32 b)), some (.int (I32 was)), none, none, none, none, none, none, none, none, none, none, none] [] S n mu la 0 0 := by
  have hp := hL.2.2.1
  refine V_iload C dL_acts_1233 rfl ?_
  refine V_if_ne C 1243 dL_acts_1235 (by decide) (by omega) (fun c => ?_) (fun c => ?_)
  · obtain ⟨hgr, hM, hP⟩ := hM2 c
    have b20 := hR (w + 2) (20 + mu (w + 2) (4 * a + 2))
    refine V_aload_n C dL_acts_1243 rfl ?_
    refine V_bipush C dL_acts_1244 (by decide +kernel) ?_
    refine V_aload_n C dL_acts_1246 rfl ?_
    refine V_iconst C dL_acts_1247 ?_
    refine V_iload C dL_acts_1248 rfl ?_
    refine V_imul C dL_acts_1250 ?_
    refine V_iconst C dL_acts_1251 ?_
    refine V_iadd C dL_acts_1252 ?_
    refine V_iald C dL_acts_1253 hp (by first | assumption | decide) (by omega) ?_
    refine V_iadd C dL_acts_1254 ?_
    refine V_iald C dL_acts_1255 hp (by first | assumption | decide) (by omega) ?_
    refine V_istore C dL_acts_1256 rfl (by decide) ?_
    refine V_iload C dL_acts_1258 rfl ?_
    refine V_if_le C 1278 dL_acts_1260 (by decide) (by omega) (fun c1 => ?_) (fun c1 => ?_)
    · exact absurd c1 (by omega)
    refine V_aload_n C dL_acts_1263 rfl ?_
    refine V_bipush C dL_acts_1264 (by decide +kernel) ?_
    refine V_aload_n C dL_acts_1266 rfl ?_
    refine V_iconst C dL_acts_1267 ?_
    refine V_iload C dL_acts_1268 rfl ?_
    refine V_imul C dL_acts_1270 ?_
    refine V_iconst C dL_acts_1271 ?_
    refine V_iadd C dL_acts_1272 ?_
    refine V_iald C dL_acts_1273 hp (by first | assumption | decide) (by omega) ?_
    refine V_iadd C dL_acts_1274 ?_
    refine V_iload C dL_acts_1275 rfl ?_
    refine V_iast C dL_acts_1277 hp (by first | assumption | decide) (by omega) ?_
    refine V_aload_n C dL_acts_1278 rfl ?_
    refine V_iload C dL_acts_1279 rfl ?_
    refine V_callSHQ (nA := 2) C dL_acts_1281 hM gL_acts_L_wakes rfl (by decide +kernel) rfl (by decide) (by decide) (Nat.le_of_ble_eq_true rfl) ⟨by omega, by omega⟩ rfl ?_
    intro n1
    refine V_iload C dL_acts_1284 rfl ?_
    refine V_icmp_ne C 1293 dL_acts_1286 (by decide) (by omega) (by omega) (fun c2 => ?_) (fun c2 => ?_)
    · exact absurd rfl c2
    refine V_iconst C dL_acts_1289 ?_
    refine V_goto C 1294 dL_acts_1290 (by decide) ?_
    refine V_zreturn C E (by first | exact Or.inl rfl | exact Or.inr rfl | simp) dL_acts_1294 (by omega) (by omega) ?_
    exact hP n1
  · obtain ⟨hM, hP⟩ := hM1 c
    refine V_ldcI C (v := -10000003) dL_acts_1238 (by decide +kernel) ?_
    refine V_goto C 1256 dL_acts_1240 (by decide) ?_
    refine V_istore C dL_acts_1256 rfl (by decide) ?_
    refine V_iload C dL_acts_1258 rfl ?_
    refine V_if_le C 1278 dL_acts_1260 (by decide) (by omega) (fun c1 => ?_) (fun c1 => ?_)
    · refine V_aload_n C dL_acts_1278 rfl ?_
      refine V_iload C dL_acts_1279 rfl ?_
      refine V_callSHQ (nA := 2) C dL_acts_1281 hM gL_acts_L_wakes rfl (by decide +kernel) rfl (by decide) (by decide) (Nat.le_of_ble_eq_true rfl) ⟨by omega, by omega⟩ rfl ?_
      intro n1
      refine V_iload C dL_acts_1284 rfl ?_
      refine V_icmp_ne C 1293 dL_acts_1286 (by decide) (by omega) (by omega) (fun c2 => ?_) (fun c2 => ?_)
      · exact absurd rfl c2
      refine V_iconst C dL_acts_1289 ?_
      refine V_goto C 1294 dL_acts_1290 (by decide) ?_
      refine V_zreturn C E (by first | exact Or.inl rfl | exact Or.inr rfl | simp) dL_acts_1294 (by omega) (by omega) ?_
      exact hP n1
    · exact absurd c1 (by omega)
end LC3
