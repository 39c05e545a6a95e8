/-! THE LAW OF p32: a pane is docked at another one, or at a side of the window -/
theorem jP_R {mu : Mem} (h : R32 mu) (w : Nat) (t : Int) {k we gr : Int} (hm : mu w 3 ≤ 100) (hk : -2147483648 ≤ k ∧ k ≤ 2147483647) (hw : -2147483648 ≤ we ∧ we ≤ 2147483647) (hg : -2147483648 ≤ gr ∧ gr ≤ 2147483647) : R32 (jP mu w t k we gr) := fun y i => by
  unfold jP
  have := h w 3
  (repeat' split) <;> first | exact h _ _ | omega
theorem jP_3 (mu : Mem) (w : Nat) (t k we gr : Int) : jP mu w t k we gr w 3 = mu w 3 + 1 := by
  unfold jP
  rw [if_neg (by omega), if_pos ⟨rfl, rfl⟩]
theorem jKm_R {mu : Mem} (h : R32 mu) (w : Nat) (p : Int) : R32 (jKm mu w p) := jK1_R (R32_up h _ _ (by omega)) _ _ _ _ (h _ _).1
theorem jKm_x (mu : Mem) (w : Nat) (p : Int) {a : Nat} (ha : a ≠ w + 2) (i : Int) : jKm mu w p a i = mu a i := by
  unfold jKm
  rw [jK1_x _ _ _ _ _ (by omega), up_e, if_neg (by omega)]
theorem jKn_b {mu : Mem} {w : Nat} {p : Int} (hm : 0 ≤ mu w 2 ∧ mu w 2 ≤ 5) : -1 ≤ jKn mu w p ∧ jKn mu w p < 5 := by
  have a := jNG_b (up mu (w + 2) (4 * p + 2) (-1) (w + 2)) (mu (w + 2) (4 * p + 2)) (mu (w + 2) (4 * p + 3)) (mu w 2).toNat
  have b := jMG_b (jKm mu w p (w + 2)) (mu (w + 2) (4 * p + 2)) (jT (jKm mu w p) w (mu (w + 2) (4 * p + 2)) - 1) (mu w 2) (mu w 2).toNat (by omega)
  unfold jKn
  dsimp only
  split <;> omega
theorem jKf_R {mu : Mem} (h : R32 mu) (w : Nat) (t : Int) (hm : 0 ≤ mu w 4) : R32 (jKf mu w t) := fun y i => by
  unfold jKf jKf1
  have := h w 4
  split
  · exact h _ _
  · split
    · omega
    · exact h _ _
theorem jC_x (mu : Mem) (w : Nat) (t : Int) {a : Nat} {i : Int} (h : a ≠ w + 1 ∧ (a ≠ w ∨ i ≠ 3)) : jC mu w t a i = mu a i := by
  unfold jC jC1
  rw [if_neg (by omega), if_neg (by omega)]
theorem jKf_x (mu : Mem) (w : Nat) (t : Int) {a : Nat} {i : Int} (h : a ≠ w + 3 ∧ (a ≠ w ∨ i ≠ 4)) : jKf mu w t a i = mu a i := by
  unfold jKf jKf1
  rw [if_neg (by omega), if_neg (by omega)]
theorem jKg_R {m mu' : Mem} {w : Nat} {gr : Int} (h : R32 m) (hm : 0 ≤ m w 3) (H : jKg m w gr mu') : R32 mu' ∧ ∀ (a : Nat) (i : Int), (a ≠ w + 1 ∧ a ≠ w + 3 ∧ (a ≠ w ∨ i ≠ 3 ∧ i ≠ 4)) → mu' a i = m a i := by
  rcases H with ⟨-, t, ht, -, -, rfl⟩ | ⟨h0, o, hu, H⟩
  · exact ⟨jKf_R h w t (by omega), fun a i q => jKf_x _ _ _ ⟨q.2.1, by omega⟩⟩
  · have r1 : R32 (jC m w (jS m w gr)) := jC_R h _ _ hm
    have x1 : ∀ (a : Nat) (i : Int), (a ≠ w + 1 ∧ a ≠ w + 3 ∧ (a ≠ w ∨ i ≠ 3 ∧ i ≠ 4)) → jC m w (jS m w gr) a i = m a i := fun a i q => jC_x _ _ _ ⟨q.1, by omega⟩
    rcases H with ⟨-, rfl⟩ | ⟨-, N, q, -, -, -, H⟩
    · exact ⟨r1, x1⟩
    · rcases H with ⟨-, rfl⟩ | ⟨-, e, e1, e2, -, rfl⟩
      · exact ⟨r1, x1⟩
      · have ub := hu.1
        have g3 := jC_3 m w (jS m w gr)
        generalize jC m w (jS m w gr) = m2 at *
        have r2 : R32 (up m2 (w + 1) (3 * o + 4) (m2 (w + 1) (3 * o + 1))) := R32_up r1 _ _ (r1 _ _)
        have y3 : up m2 (w + 1) (3 * o + 4) (m2 (w + 1) (3 * o + 1)) w 3 = m2 w 3 := by rw [up_e, if_neg (by omega)]
        have y2 : ∀ (a : Nat) (i : Int), (a ≠ w + 1 ∧ a ≠ w + 3 ∧ (a ≠ w ∨ i ≠ 3 ∧ i ≠ 4)) → up m2 (w + 1) (3 * o + 4) (m2 (w + 1) (3 * o + 1)) a i = m a i := fun a i q => by rw [up_e, if_neg (by omega), x1 a i q]
        generalize up m2 (w + 1) (3 * o + 4) (m2 (w + 1) (3 * o + 1)) = m3 at *
        have z3 := jC_3 m3 w e
        refine ⟨jC_R (jC_R r2 _ _ (by omega)) _ _ (by omega), fun a i q => ?_⟩
        rw [jC_x _ _ _ ⟨q.1, by omega⟩, jC_x _ _ _ ⟨q.1, by omega⟩, y2 a i q]
theorem jK_R {mu mu' : Mem} {w : Nat} {p : Int} (h : R32 mu) (hm : 0 ≤ mu w 2 ∧ mu w 2 ≤ 5) (hs : 0 ≤ mu w 3) (H : jK mu w p mu') : R32 mu' ∧ mu' w 2 = mu w 2 := by
  have e2 := jKm_x mu w p (show w ≠ w + 2 by omega) 2
  have e3 := jKm_x mu w p (show w ≠ w + 2 by omega) 3
  rcases H with ⟨-, rfl⟩ | ⟨-, H⟩
  · exact ⟨h, rfl⟩
  · rcases H with ⟨-, rfl⟩ | ⟨-, H⟩
    · have := jKn_b (p := p) hm
      refine ⟨R32_up (jKm_R h w p) _ _ ?_, ?_⟩
      · split
        · omega
        · exact h _ _
      · rw [up_e, if_neg (by omega), e2]
    · have := jKg_R (jKm_R h w p) (by omega) H
      exact ⟨this.1, by rw [this.2 w 2 (by omega), e2]⟩
/-- the number of a new group -/
def jFg (mu : Mem) (w : Nat) (g : Int) : Prop := (0 ≤ g ∧ g < 5) ∧ jT mu w g ≤ 0 ∧ ∀ x : Int, 0 ≤ x → x < g → 0 < jT mu w x
theorem jF_R {mu : Mem} (h : R32 mu) (w : Nat) {p g : Int} (hp : 0 ≤ p ∧ p < 5) (hg : 0 ≤ g ∧ g < 5) : R32 (jF mu w p g) := R32_up (R32_up (R32_up h _ _ (by omega)) _ _ (by omega)) _ _ (by omega)
theorem jF_x (mu : Mem) (w : Nat) (p g : Int) {a : Nat} (ha : a ≠ w + 2) (i : Int) : jF mu w p g a i = mu a i := by
  unfold jF
  rw [up_a _ _ _ _ ha, up_a _ _ _ _ ha, up_a _ _ _ _ ha]
def jDt (mu : Mem) (w : Nat) (p g : Int) : Mem := up (up (up mu (w + 2) (4 * p + 3) (jT mu w g)) (w + 2) (4 * p + 2) g) (w + 2) (20 + g) p
/-- docked at the side of a group whose sign is i, with its split at o -/
def jDs (m : Mem) (w : Nat) (i o g side : Int) (mu' : Mem) : Prop :=
  ((0 ≤ o ∧ m (w + 1) (3 * o) = 2 + side / 2) ∧ mu' = jP m w (i + side % 2) 1 (m (w + 1) (3 * i + 1)) g) ∨
  (¬ (0 ≤ o ∧ m (w + 1) (3 * o) = 2 + side / 2) ∧ mu' = jP (jP (up (jP m w i (2 + side / 2) (m (w + 1) (3 * i + 1)) (-1)) (w + 1) (3 * i + 4) 1) w (i + 1 + side % 2) 1 1 g) w (i + 3) 4 0 (-1))
/-- what docking makes of the law's rows, and the answer -/
def jD (mu : Mem) (w : Nat) (p t side : Int) (mu' : Mem) (an : Int) : Prop := ∃ m1 : Mem, jK mu w p m1 ∧ (0 ≤ m1 w 3 ∧ m1 w 3 ≤ 12) ∧ (0 ≤ m1 (w + 2) (4 * t + 2) ∧ m1 (w + 2) (4 * t + 2) < 5) ∧
  ((side = 4 ∧ mu' = jDt m1 w p (m1 (w + 2) (4 * t + 2)) ∧ an = jT m1 w (m1 (w + 2) (4 * t + 2)) + 1) ∨
   (side ≠ 4 ∧ an = 1 ∧ ∃ g o : Int, jFg m1 w g ∧ 0 ≤ jS (jF m1 w p g) w (m1 (w + 2) (4 * t + 2)) ∧ UpP (jF m1 w p g (w + 1)) (jS (jF m1 w p g) w (m1 (w + 2) (4 * t + 2))) o ∧ jDs (jF m1 w p g) w (jS (jF m1 w p g) w (m1 (w + 2) (4 * t + 2))) o g side mu'))
def jEs (m : Mem) (w : Nat) (g side : Int) (mu' : Mem) : Prop :=
  (m w 3 = 0 ∧ mu' = jP m w 0 1 1 g) ∨
  (m w 3 ≠ 0 ∧ m (w + 1) 0 = 2 + side / 2 ∧ ∃ (N : Nat) (q : Int → Int), KidP (m (w + 1)) 0 N q ∧ m (w + 1) (3 * q N) = 4 ∧ (1 ≤ N ∧ N ≤ 20) ∧ mu' = jP m w (if side % 2 = 1 then m w 3 - 1 else 1) 1 (m (w + 1) (3 * q (if side % 2 = 1 then N - 1 else 0) + 1)) g) ∨
  (m w 3 ≠ 0 ∧ m (w + 1) 0 ≠ 2 + side / 2 ∧ mu' = jP (jP (jP (up m (w + 1) 1 1) w (if side % 2 = 1 then m w 3 else 0) 1 1 g) w 0 (2 + side / 2) 1 (-1)) w (m w 3 + 2) 4 0 (-1))
/-- what docking at the window makes of the law's rows -/
def jE (mu : Mem) (w : Nat) (p side : Int) (mu' : Mem) : Prop := ∃ (m1 : Mem) (g : Int), jK mu w p m1 ∧ (0 ≤ m1 w 3 ∧ m1 w 3 ≤ 12) ∧ jFg m1 w g ∧ jEs (jF m1 w p g) w g side mu'
section LR4
variable {G : Gx} {l : Launch} {S : Sh} {n : Nat} {mu mu' : Mem} {la : Lam} {w : Nat}
set_option maxRecDepth 20000 in
theorem ggL_docked_L_takes : GoodIn wsL_docked wsL_takes := goodIn_r _ [4, 5, 6, 3, 7, 8, 9, 10, 11, 12, 13, 14, 15, 16, 17, 18, 19, 20, 21, 22, 23, 24, 25] (by decide +kernel) (by decide +kernel)
set_option maxRecDepth 20000 in
theorem gL_docked_L_takes : GoodIn wsL_docked (va_wsS RL 35 yL_takes wsL_takes) := goodIn_app (goodIn_of _ (by decide +kernel)) ggL_docked_L_takes
set_option maxRecDepth 20000 in
theorem ggL_docked_L_tabs : GoodIn wsL_docked wsL_tabs := goodIn_r _ [7] (by decide +kernel) (by decide +kernel)
set_option maxRecDepth 20000 in
theorem gL_docked_L_tabs : GoodIn wsL_docked (va_wsS RL 22 yL_tabs wsL_tabs) := goodIn_app (goodIn_of _ (by decide +kernel)) ggL_docked_L_tabs
set_option maxRecDepth 20000 in
theorem ggL_docked_L_founds : GoodIn wsL_docked wsL_founds := goodIn_r _ [28, 5, 6, 3, 7] (by decide +kernel) (by decide +kernel)
set_option maxRecDepth 20000 in
theorem gL_docked_L_founds : GoodIn wsL_docked (va_wsS RL 39 yL_founds wsL_founds) := goodIn_app (goodIn_of _ (by decide +kernel)) ggL_docked_L_founds
set_option maxRecDepth 20000 in
theorem ggL_docked_L_signOf : GoodIn wsL_docked wsL_signOf := goodIn_r _ [10] (by decide +kernel) (by decide +kernel)
set_option maxRecDepth 20000 in
theorem gL_docked_L_signOf : GoodIn wsL_docked (va_wsS RL 18 yL_signOf wsL_signOf) := goodIn_app (goodIn_of _ (by decide +kernel)) ggL_docked_L_signOf
set_option maxRecDepth 20000 in
theorem ggL_docked_L_up : GoodIn wsL_docked wsL_up := goodIn_r _ [13] (by decide +kernel) (by decide +kernel)
set_option maxRecDepth 20000 in
theorem gL_docked_L_up : GoodIn wsL_docked (va_wsS RL 25 yL_up wsL_up) := goodIn_app (goodIn_of _ (by decide +kernel)) ggL_docked_L_up
set_option maxRecDepth 20000 in
theorem ggL_docked_L_put : GoodIn wsL_docked wsL_put := goodIn_r _ [31] (by decide +kernel) (by decide +kernel)
set_option maxRecDepth 20000 in
theorem gL_docked_L_put : GoodIn wsL_docked (va_wsS RL 42 yL_put wsL_put) := goodIn_app (goodIn_of _ (by decide +kernel)) ggL_docked_L_put
theorem dL_docked_0 : decode cL_docked 0 = .ok (.aload_n 0, 1) := by decide +kernel
theorem dL_docked_1 : decode cL_docked 1 = .ok (.aload_n 1, 1) := by decide +kernel
theorem dL_docked_2 : decode cL_docked 2 = .ok (.aload_n 2, 1) := by decide +kernel
theorem dL_docked_3 : decode cL_docked 3 = .ok (.aload_n 3, 1) := by decide +kernel
theorem dL_docked_4 : decode cL_docked 4 = .ok (.iload 4, 2) := by decide +kernel
theorem dL_docked_6 : decode cL_docked 6 = .ok (.invokestatic 35, 3) := by decide +kernel
theorem dL_docked_9 : decode cL_docked 9 = .ok (.aload_n 2, 1) := by decide +kernel
theorem dL_docked_10 : decode cL_docked 10 = .ok (.iconst 4, 1) := by decide +kernel
theorem dL_docked_11 : decode cL_docked 11 = .ok (.iload 5, 2) := by decide +kernel
theorem dL_docked_13 : decode cL_docked 13 = .ok (.imul, 1) := by decide +kernel
theorem dL_docked_14 : decode cL_docked 14 = .ok (.iconst 2, 1) := by decide +kernel
theorem dL_docked_15 : decode cL_docked 15 = .ok (.iadd, 1) := by decide +kernel
theorem dL_docked_16 : decode cL_docked 16 = .ok (.iaload, 1) := by decide +kernel
theorem dL_docked_17 : decode cL_docked 17 = .ok (.istore 7, 2) := by decide +kernel
theorem dL_docked_19 : decode cL_docked 19 = .ok (.iload 6, 2) := by decide +kernel
theorem dL_docked_21 : decode cL_docked 21 = .ok (.iconst 4, 1) := by decide +kernel
theorem dL_docked_22 : decode cL_docked 22 = .ok (.if_icmp .ne 48, 3) := by decide +kernel
theorem dL_docked_25 : decode cL_docked 25 = .ok (.aload_n 2, 1) := by decide +kernel
theorem dL_docked_26 : decode cL_docked 26 = .ok (.iconst 4, 1) := by decide +kernel
theorem dL_docked_27 : decode cL_docked 27 = .ok (.iload 4, 2) := by decide +kernel
theorem dL_docked_29 : decode cL_docked 29 = .ok (.imul, 1) := by decide +kernel
theorem dL_docked_30 : decode cL_docked 30 = .ok (.iconst 3, 1) := by decide +kernel
theorem dL_docked_31 : decode cL_docked 31 = .ok (.iadd, 1) := by decide +kernel
theorem dL_docked_32 : decode cL_docked 32 = .ok (.aload_n 0, 1) := by decide +kernel
theorem dL_docked_33 : decode cL_docked 33 = .ok (.aload_n 2, 1) := by decide +kernel
theorem dL_docked_34 : decode cL_docked 34 = .ok (.iload 7, 2) := by decide +kernel
theorem dL_docked_36 : decode cL_docked 36 = .ok (.invokestatic 22, 3) := by decide +kernel
theorem dL_docked_39 : decode cL_docked 39 = .ok (.iastore, 1) := by decide +kernel
theorem dL_docked_40 : decode cL_docked 40 = .ok (.aload_n 2, 1) := by decide +kernel
theorem dL_docked_41 : decode cL_docked 41 = .ok (.iconst 4, 1) := by decide +kernel
theorem dL_docked_42 : decode cL_docked 42 = .ok (.iload 4, 2) := by decide +kernel
theorem dL_docked_44 : decode cL_docked 44 = .ok (.imul, 1) := by decide +kernel
theorem dL_docked_45 : decode cL_docked 45 = .ok (.iconst 2, 1) := by decide +kernel
theorem dL_docked_46 : decode cL_docked 46 = .ok (.iadd, 1) := by decide +kernel
theorem dL_docked_47 : decode cL_docked 47 = .ok (.iload 7, 2) := by decide +kernel
theorem dL_docked_49 : decode cL_docked 49 = .ok (.iastore, 1) := by decide +kernel
theorem dL_docked_50 : decode cL_docked 50 = .ok (.aload_n 2, 1) := by decide +kernel
theorem dL_docked_51 : decode cL_docked 51 = .ok (.bipush 20, 2) := by decide +kernel
theorem dL_docked_53 : decode cL_docked 53 = .ok (.iload 7, 2) := by decide +kernel
theorem dL_docked_55 : decode cL_docked 55 = .ok (.iadd, 1) := by decide +kernel
theorem dL_docked_56 : decode cL_docked 56 = .ok (.iload 4, 2) := by decide +kernel
theorem dL_docked_58 : decode cL_docked 58 = .ok (.iastore, 1) := by decide +kernel
theorem dL_docked_59 : decode cL_docked 59 = .ok (.aload_n 2, 1) := by decide +kernel
theorem dL_docked_60 : decode cL_docked 60 = .ok (.iconst 4, 1) := by decide +kernel
theorem dL_docked_61 : decode cL_docked 61 = .ok (.iload 4, 2) := by decide +kernel
theorem dL_docked_63 : decode cL_docked 63 = .ok (.imul, 1) := by decide +kernel
theorem dL_docked_64 : decode cL_docked 64 = .ok (.iconst 3, 1) := by decide +kernel
theorem dL_docked_65 : decode cL_docked 65 = .ok (.iadd, 1) := by decide +kernel
theorem dL_docked_66 : decode cL_docked 66 = .ok (.iaload, 1) := by decide +kernel
theorem dL_docked_67 : decode cL_docked 67 = .ok (.iconst 1, 1) := by decide +kernel
theorem dL_docked_68 : decode cL_docked 68 = .ok (.iadd, 1) := by decide +kernel
theorem dL_docked_69 : decode cL_docked 69 = .ok (.ireturn, 1) := by decide +kernel
theorem dL_docked_70 : decode cL_docked 70 = .ok (.aload_n 0, 1) := by decide +kernel
theorem dL_docked_71 : decode cL_docked 71 = .ok (.aload_n 2, 1) := by decide +kernel
theorem dL_docked_72 : decode cL_docked 72 = .ok (.iload 4, 2) := by decide +kernel
theorem dL_docked_74 : decode cL_docked 74 = .ok (.invokestatic 39, 3) := by decide +kernel
theorem dL_docked_77 : decode cL_docked 77 = .ok (.istore 8, 2) := by decide +kernel
theorem dL_docked_79 : decode cL_docked 79 = .ok (.aload_n 0, 1) := by decide +kernel
theorem dL_docked_80 : decode cL_docked 80 = .ok (.aload_n 1, 1) := by decide +kernel
theorem dL_docked_81 : decode cL_docked 81 = .ok (.iload 7, 2) := by decide +kernel
theorem dL_docked_83 : decode cL_docked 83 = .ok (.invokestatic 18, 3) := by decide +kernel
theorem dL_docked_86 : decode cL_docked 86 = .ok (.istore 9, 2) := by decide +kernel
theorem dL_docked_88 : decode cL_docked 88 = .ok (.aload_n 1, 1) := by decide +kernel
theorem dL_docked_89 : decode cL_docked 89 = .ok (.iload 9, 2) := by decide +kernel
theorem dL_docked_91 : decode cL_docked 91 = .ok (.invokestatic 25, 3) := by decide +kernel
theorem dL_docked_94 : decode cL_docked 94 = .ok (.istore 10, 2) := by decide +kernel
theorem dL_docked_96 : decode cL_docked 96 = .ok (.iconst 2, 1) := by decide +kernel
theorem dL_docked_97 : decode cL_docked 97 = .ok (.iload 6, 2) := by decide +kernel
theorem dL_docked_99 : decode cL_docked 99 = .ok (.iconst 2, 1) := by decide +kernel
theorem dL_docked_100 : decode cL_docked 100 = .ok (.idiv, 1) := by decide +kernel
theorem dL_docked_101 : decode cL_docked 101 = .ok (.iadd, 1) := by decide +kernel
theorem dL_docked_102 : decode cL_docked 102 = .ok (.istore 11, 2) := by decide +kernel
theorem dL_docked_104 : decode cL_docked 104 = .ok (.iload 6, 2) := by decide +kernel
theorem dL_docked_106 : decode cL_docked 106 = .ok (.iconst 2, 1) := by decide +kernel
theorem dL_docked_107 : decode cL_docked 107 = .ok (.irem, 1) := by decide +kernel
theorem dL_docked_108 : decode cL_docked 108 = .ok (.istore 12, 2) := by decide +kernel
theorem dL_docked_110 : decode cL_docked 110 = .ok (.iload 10, 2) := by decide +kernel
theorem dL_docked_112 : decode cL_docked 112 = .ok (.ifCond .lt 38, 3) := by decide +kernel
theorem dL_docked_115 : decode cL_docked 115 = .ok (.aload_n 1, 1) := by decide +kernel
theorem dL_docked_116 : decode cL_docked 116 = .ok (.iconst 3, 1) := by decide +kernel
theorem dL_docked_117 : decode cL_docked 117 = .ok (.iload 10, 2) := by decide +kernel
theorem dL_docked_119 : decode cL_docked 119 = .ok (.imul, 1) := by decide +kernel
theorem dL_docked_120 : decode cL_docked 120 = .ok (.iaload, 1) := by decide +kernel
theorem dL_docked_121 : decode cL_docked 121 = .ok (.iload 11, 2) := by decide +kernel
theorem dL_docked_123 : decode cL_docked 123 = .ok (.if_icmp .ne 27, 3) := by decide +kernel
theorem dL_docked_126 : decode cL_docked 126 = .ok (.aload_n 0, 1) := by decide +kernel
theorem dL_docked_127 : decode cL_docked 127 = .ok (.aload_n 1, 1) := by decide +kernel
theorem dL_docked_128 : decode cL_docked 128 = .ok (.iload 9, 2) := by decide +kernel
theorem dL_docked_130 : decode cL_docked 130 = .ok (.iload 12, 2) := by decide +kernel
theorem dL_docked_132 : decode cL_docked 132 = .ok (.iadd, 1) := by decide +kernel
theorem dL_docked_133 : decode cL_docked 133 = .ok (.iconst 1, 1) := by decide +kernel
theorem dL_docked_134 : decode cL_docked 134 = .ok (.aload_n 1, 1) := by decide +kernel
theorem dL_docked_135 : decode cL_docked 135 = .ok (.iconst 3, 1) := by decide +kernel
theorem dL_docked_136 : decode cL_docked 136 = .ok (.iload 9, 2) := by decide +kernel
theorem dL_docked_138 : decode cL_docked 138 = .ok (.imul, 1) := by decide +kernel
theorem dL_docked_139 : decode cL_docked 139 = .ok (.iconst 1, 1) := by decide +kernel
theorem dL_docked_140 : decode cL_docked 140 = .ok (.iadd, 1) := by decide +kernel
theorem dL_docked_141 : decode cL_docked 141 = .ok (.iaload, 1) := by decide +kernel
theorem dL_docked_142 : decode cL_docked 142 = .ok (.iload 8, 2) := by decide +kernel
theorem dL_docked_144 : decode cL_docked 144 = .ok (.invokestatic 42, 3) := by decide +kernel
theorem dL_docked_147 : decode cL_docked 147 = .ok (.goto 58, 3) := by decide +kernel
theorem dL_docked_150 : decode cL_docked 150 = .ok (.aload_n 0, 1) := by decide +kernel
theorem dL_docked_151 : decode cL_docked 151 = .ok (.aload_n 1, 1) := by decide +kernel
theorem dL_docked_152 : decode cL_docked 152 = .ok (.iload 9, 2) := by decide +kernel
theorem dL_docked_154 : decode cL_docked 154 = .ok (.iload 11, 2) := by decide +kernel
theorem dL_docked_156 : decode cL_docked 156 = .ok (.aload_n 1, 1) := by decide +kernel
theorem dL_docked_157 : decode cL_docked 157 = .ok (.iconst 3, 1) := by decide +kernel
theorem dL_docked_158 : decode cL_docked 158 = .ok (.iload 9, 2) := by decide +kernel
theorem dL_docked_160 : decode cL_docked 160 = .ok (.imul, 1) := by decide +kernel
theorem dL_docked_161 : decode cL_docked 161 = .ok (.iconst 1, 1) := by decide +kernel
theorem dL_docked_162 : decode cL_docked 162 = .ok (.iadd, 1) := by decide +kernel
theorem dL_docked_163 : decode cL_docked 163 = .ok (.iaload, 1) := by decide +kernel
theorem dL_docked_164 : decode cL_docked 164 = .ok (.iconst (-1), 1) := by decide +kernel
theorem dL_docked_165 : decode cL_docked 165 = .ok (.invokestatic 42, 3) := by decide +kernel
theorem dL_docked_168 : decode cL_docked 168 = .ok (.aload_n 1, 1) := by decide +kernel
theorem dL_docked_169 : decode cL_docked 169 = .ok (.iconst 3, 1) := by decide +kernel
theorem dL_docked_170 : decode cL_docked 170 = .ok (.iload 9, 2) := by decide +kernel
theorem dL_docked_172 : decode cL_docked 172 = .ok (.imul, 1) := by decide +kernel
theorem dL_docked_173 : decode cL_docked 173 = .ok (.iconst 4, 1) := by decide +kernel
theorem dL_docked_174 : decode cL_docked 174 = .ok (.iadd, 1) := by decide +kernel
theorem dL_docked_175 : decode cL_docked 175 = .ok (.iconst 1, 1) := by decide +kernel
theorem dL_docked_176 : decode cL_docked 176 = .ok (.iastore, 1) := by decide +kernel
theorem dL_docked_177 : decode cL_docked 177 = .ok (.aload_n 0, 1) := by decide +kernel
theorem dL_docked_178 : decode cL_docked 178 = .ok (.aload_n 1, 1) := by decide +kernel
theorem dL_docked_179 : decode cL_docked 179 = .ok (.iload 9, 2) := by decide +kernel
theorem dL_docked_181 : decode cL_docked 181 = .ok (.iconst 1, 1) := by decide +kernel
theorem dL_docked_182 : decode cL_docked 182 = .ok (.iadd, 1) := by decide +kernel
theorem dL_docked_183 : decode cL_docked 183 = .ok (.iload 12, 2) := by decide +kernel
theorem dL_docked_185 : decode cL_docked 185 = .ok (.iadd, 1) := by decide +kernel
theorem dL_docked_186 : decode cL_docked 186 = .ok (.iconst 1, 1) := by decide +kernel
theorem dL_docked_187 : decode cL_docked 187 = .ok (.iconst 1, 1) := by decide +kernel
theorem dL_docked_188 : decode cL_docked 188 = .ok (.iload 8, 2) := by decide +kernel
theorem dL_docked_190 : decode cL_docked 190 = .ok (.invokestatic 42, 3) := by decide +kernel
theorem dL_docked_193 : decode cL_docked 193 = .ok (.aload_n 0, 1) := by decide +kernel
theorem dL_docked_194 : decode cL_docked 194 = .ok (.aload_n 1, 1) := by decide +kernel
theorem dL_docked_195 : decode cL_docked 195 = .ok (.iload 9, 2) := by decide +kernel
theorem dL_docked_197 : decode cL_docked 197 = .ok (.iconst 3, 1) := by decide +kernel
theorem dL_docked_198 : decode cL_docked 198 = .ok (.iadd, 1) := by decide +kernel
theorem dL_docked_199 : decode cL_docked 199 = .ok (.iconst 4, 1) := by decide +kernel
theorem dL_docked_200 : decode cL_docked 200 = .ok (.iconst 0, 1) := by decide +kernel
theorem dL_docked_201 : decode cL_docked 201 = .ok (.iconst (-1), 1) := by decide +kernel
theorem dL_docked_202 : decode cL_docked 202 = .ok (.invokestatic 42, 3) := by decide +kernel
theorem dL_docked_205 : decode cL_docked 205 = .ok (.iconst 1, 1) := by decide +kernel
theorem dL_docked_206 : decode cL_docked 206 = .ok (.ireturn, 1) := by decide +kernel
set_option maxHeartbeats 1000000 in
theorem l_docked (hG : GP G) (hL : LwS S w) (hR : R32 mu) {p t side an : Int} (hp : 0 ≤ p ∧ p < mu w 2) (ht : 0 ≤ t ∧ t < 5) (hsd : 0 ≤ side ∧ side ≤ 4) (hm : mu w 2 ≤ 5) (hs : 0 ≤ mu w 3 ∧ mu w 3 ≤ 16) (h : jD mu w p t side mu' an) :
    Ct G l yL_docked wsL_docked 5 0 0 [.ref w, .ref (w + 1), .ref (w + 2), .ref (w + 3), .int (I32 p), .int (I32 t), .int (I32 side)] S n mu la (Dt (some (.int (I32 an))) S n mu' la) := by
  have hg := hL.1
  have hq := hL.2.1
  have hpp := hL.2.2.1
  obtain ⟨m1, hK, h3, hto, h⟩ := h
  obtain ⟨R1, e2⟩ := jK_R hR (by omega) hs.1 hK
  refine Ct.ofV (cc := cL_docked) (nL := 13) (ret := (some .int)) [some (.ref w), some (.ref (w + 1)), some (.ref (w + 2)), some (.ref (w + 3)), some (.int (I32 p)), some (.int (I32 t)), some (.int (I32 side)), none, none, none, none, none, none] hG (by decide) rfl (Nat.le_of_ble_eq_true rfl) rfl ?_
  rintro X rfl rfl C hcl hsl E
  refine V_aload_n C dL_docked_0 rfl ?_
  refine V_aload_n C dL_docked_1 rfl ?_
  refine V_aload_n C dL_docked_2 rfl ?_
  refine V_aload_n C dL_docked_3 rfl ?_
  refine V_iload C dL_docked_4 rfl ?_
  refine V_callS2D (nA := 5) C dL_docked_6 (l_takes C.gp hL hR hp hm hs hK) gL_docked_L_takes rfl (by decide +kernel) rfl (by decide) (by decide) (Nat.le_of_ble_eq_true rfl) ⟨by omega, by omega⟩ rfl ?_
  refine V_aload_n C dL_docked_9 rfl ?_
  refine V_iconst C dL_docked_10 ?_
  refine V_iload C dL_docked_11 rfl ?_
  refine V_imul C dL_docked_13 ?_
  refine V_iconst C dL_docked_14 ?_
  refine V_iadd C dL_docked_15 ?_
  refine V_iald C dL_docked_16 hpp (by first | assumption | decide) (by omega) ?_
  generalize eto : m1 (w + 2) (4 * t + 2) = g0 at *
  refine V_istore C dL_docked_17 rfl (by decide) ?_
  refine V_iload C dL_docked_19 rfl ?_
  refine V_iconst C dL_docked_21 ?_
  refine V_icmp_ne C 70 dL_docked_22 (by decide) (by omega) (by omega) (fun c => ?_) (fun c => ?_)
  · rcases h with ⟨h, -⟩ | ⟨-, h, g, o, hfg, hi, hu, hd⟩
    · exact absurd h c
    have RF : R32 (jF m1 w p g) := jF_R R1 w (by omega) hfg.1
    have F3 := jF_x m1 w p g (show w ≠ w + 2 by omega) 3
    have sb := jS_b (mu := jF m1 w p g) (w := w) (gr := g0) (by omega)
    have ub := hu.1
    have gb := hfg.1
    refine V_aload_n C dL_docked_70 rfl ?_
    refine V_aload_n C dL_docked_71 rfl ?_
    refine V_iload C dL_docked_72 rfl ?_
    refine V_callSD (nA := 3) C dL_docked_74 (l_founds C.gp hL R1 ⟨by omega, by omega⟩ (by omega) hfg.1 hfg.2.1 hfg.2.2) gL_docked_L_founds rfl (by decide +kernel) rfl (by decide) (by decide) (Nat.le_of_ble_eq_true rfl) ⟨by omega, by omega⟩ rfl ?_
    refine V_istore C dL_docked_77 rfl (by decide) ?_
    refine V_aload_n C dL_docked_79 rfl ?_
    refine V_aload_n C dL_docked_80 rfl ?_
    refine V_iload C dL_docked_81 rfl ?_
    refine V_callSD (nA := 3) C dL_docked_83 (l_signOf C.gp hL RF (by omega) ⟨by omega, by omega⟩) gL_docked_L_signOf rfl (by decide +kernel) rfl (by decide) (by decide) (Nat.le_of_ble_eq_true rfl) ⟨by omega, by omega⟩ rfl ?_
    refine V_istore C dL_docked_86 rfl (by decide) ?_
    refine V_aload_n C dL_docked_88 rfl ?_
    refine V_iload C dL_docked_89 rfl ?_
    refine V_callSD (nA := 2) C dL_docked_91 (l_up C.gp hq RF hu) gL_docked_L_up rfl (by decide +kernel) rfl (by decide) (by decide) (Nat.le_of_ble_eq_true rfl) ⟨by omega, by omega⟩ rfl ?_
    generalize jS (jF m1 w p g) w g0 = i at *
    generalize jF m1 w p g = m at *
    refine V_istore C dL_docked_94 rfl (by decide) ?_
    refine V_iconst C dL_docked_96 ?_
    refine V_iload C dL_docked_97 rfl ?_
    refine V_iconst C dL_docked_99 ?_
    refine V_idiv C dL_docked_100 (by omega) (by omega) ?_
    refine V_iadd C dL_docked_101 ?_
    refine V_istore C dL_docked_102 rfl (by decide) ?_
    refine V_iload C dL_docked_104 rfl ?_
    refine V_iconst C dL_docked_106 ?_
    refine V_irem C dL_docked_107 (by omega) (by omega) ?_
    refine V_istore C dL_docked_108 rfl (by decide) ?_
    refine V_iload C dL_docked_110 rfl ?_
    have b3o := RF (w + 1) (3 * o)
    have b3i := RF (w + 1) (3 * i + 1)
    have wrap : ¬ (0 ≤ o ∧ m (w + 1) (3 * o) = 2 + side / 2) → V X 150 [some (.ref w), some (.ref (w + 1)), some (.ref (w + 2)), some (.ref (w + 3)), some (.int (I32 p)), some (.int (I32 t)), some (.int (I32 side)), some (.int (I32 g0)), some (.int (I32 g)), some (.int (I32 i)), some (.int (I32 o)), some (.int (I32 (2 + side / 2))), some (.int (I32 (side % 2)))] [] S n m la 0 0 := by
      intro hno
      rcases hd with ⟨hd, -⟩ | ⟨-, hd⟩
      · exact absurd hd hno
      have RA : R32 (jP m w i (2 + side / 2) (m (w + 1) (3 * i + 1)) (-1)) := jP_R RF w i (by omega) (by omega) b3i (by omega)
      have A3 := jP_3 m w i (2 + side / 2) (m (w + 1) (3 * i + 1)) (-1)
      refine V_aload_n C dL_docked_150 rfl ?_
      refine V_aload_n C dL_docked_151 rfl ?_
      refine V_iload C dL_docked_152 rfl ?_
      refine V_iload C dL_docked_154 rfl ?_
      refine V_aload_n C dL_docked_156 rfl ?_
      refine V_iconst C dL_docked_157 ?_
      refine V_iload C dL_docked_158 rfl ?_
      refine V_imul C dL_docked_160 ?_
      refine V_iconst C dL_docked_161 ?_
      refine V_iadd C dL_docked_162 ?_
      refine V_iald C dL_docked_163 hq (by first | assumption | decide) (by omega) ?_
      refine V_iconst C dL_docked_164 ?_
      refine V_callSD (nA := 6) C dL_docked_165 (l_put C.gp hL RF ⟨by omega, by omega⟩ (by omega)) gL_docked_L_put rfl (by decide +kernel) rfl (by decide) (by decide) (Nat.le_of_ble_eq_true rfl) ⟨by omega, by omega⟩ rfl ?_
      generalize jP m w i (2 + side / 2) (m (w + 1) (3 * i + 1)) (-1) = mA at *
      have RB : R32 (up mA (w + 1) (3 * i + 4) 1) := R32_up RA _ _ (by omega)
      have B3 : up mA (w + 1) (3 * i + 4) 1 w 3 = mA w 3 := by rw [up_e, if_neg (by omega)]
      refine V_aload_n C dL_docked_168 rfl ?_
      refine V_iconst C dL_docked_169 ?_
      refine V_iload C dL_docked_170 rfl ?_
      refine V_imul C dL_docked_172 ?_
      refine V_iconst C dL_docked_173 ?_
      refine V_iadd C dL_docked_174 ?_
      refine V_iconst C dL_docked_175 ?_
      refine V_iast C dL_docked_176 hq (by first | assumption | decide) (by omega) ?_
      generalize up mA (w + 1) (3 * i + 4) 1 = mB at *
      have RD : R32 (jP mB w (i + 1 + side % 2) 1 1 g) := jP_R RB w _ (by omega) (by omega) (by omega) (by omega)
      have D3 := jP_3 mB w (i + 1 + side % 2) 1 1 g
      refine V_aload_n C dL_docked_177 rfl ?_
      refine V_aload_n C dL_docked_178 rfl ?_
      refine V_iload C dL_docked_179 rfl ?_
      refine V_iconst C dL_docked_181 ?_
      refine V_iadd C dL_docked_182 ?_
      refine V_iload C dL_docked_183 rfl ?_
      refine V_iadd C dL_docked_185 ?_
      refine V_iconst C dL_docked_186 ?_
      refine V_iconst C dL_docked_187 ?_
      refine V_iload C dL_docked_188 rfl ?_
      refine V_callSD (nA := 6) C dL_docked_190 (l_put C.gp hL RB ⟨by omega, by omega⟩ (by omega)) gL_docked_L_put rfl (by decide +kernel) rfl (by decide) (by decide) (Nat.le_of_ble_eq_true rfl) ⟨by omega, by omega⟩ rfl ?_
      generalize jP mB w (i + 1 + side % 2) 1 1 g = mD at *
      refine V_aload_n C dL_docked_193 rfl ?_
      refine V_aload_n C dL_docked_194 rfl ?_
      refine V_iload C dL_docked_195 rfl ?_
      refine V_iconst C dL_docked_197 ?_
      refine V_iadd C dL_docked_198 ?_
      refine V_iconst C dL_docked_199 ?_
      refine V_iconst C dL_docked_200 ?_
      refine V_iconst C dL_docked_201 ?_
      refine V_callSD (nA := 6) C dL_docked_202 (l_put C.gp hL RD ⟨by omega, by omega⟩ (by omega)) gL_docked_L_put rfl (by decide +kernel) rfl (by decide) (by decide) (Nat.le_of_ble_eq_true rfl) ⟨by omega, by omega⟩ rfl ?_
      refine V_iconst C dL_docked_205 ?_
      refine V_ireturn C E dL_docked_206 (by omega) (by omega) ?_
      rw [hd, h]
      exact Dt_rfl
    refine V_if_lt C 150 dL_docked_112 (by decide) (by omega) (fun c1 => ?_) (fun c1 => ?_)
    · exact wrap (fun q => by omega)
    · refine V_aload_n C dL_docked_115 rfl ?_
      refine V_iconst C dL_docked_116 ?_
      refine V_iload C dL_docked_117 rfl ?_
      refine V_imul C dL_docked_119 ?_
      refine V_iald C dL_docked_120 hq (by first | assumption | decide) (by omega) ?_
      refine V_iload C dL_docked_121 rfl ?_
      refine V_icmp_ne C 150 dL_docked_123 (by decide) (by omega) (by omega) (fun c2 => ?_) (fun c2 => ?_)
      · exact wrap (fun q => c2 q.2)
      · rcases hd with ⟨-, hd⟩ | ⟨hd, -⟩
        rotate_left
        · exact absurd ⟨by omega, c2⟩ hd
        refine V_aload_n C dL_docked_126 rfl ?_
        refine V_aload_n C dL_docked_127 rfl ?_
        refine V_iload C dL_docked_128 rfl ?_
        refine V_iload C dL_docked_130 rfl ?_
        refine V_iadd C dL_docked_132 ?_
        refine V_iconst C dL_docked_133 ?_
        refine V_aload_n C dL_docked_134 rfl ?_
        refine V_iconst C dL_docked_135 ?_
        refine V_iload C dL_docked_136 rfl ?_
        refine V_imul C dL_docked_138 ?_
        refine V_iconst C dL_docked_139 ?_
        refine V_iadd C dL_docked_140 ?_
        refine V_iald C dL_docked_141 hq (by first | assumption | decide) (by omega) ?_
        refine V_iload C dL_docked_142 rfl ?_
        refine V_callSD (nA := 6) C dL_docked_144 (l_put C.gp hL RF ⟨by omega, by omega⟩ (by omega)) gL_docked_L_put rfl (by decide +kernel) rfl (by decide) (by decide) (Nat.le_of_ble_eq_true rfl) ⟨by omega, by omega⟩ rfl ?_
        refine V_goto C 205 dL_docked_147 (by decide) ?_
        refine V_iconst C dL_docked_205 ?_
        refine V_ireturn C E dL_docked_206 (by omega) (by omega) ?_
        rw [hd, h]
        exact Dt_rfl
  · rcases h with ⟨-, h, ha⟩ | ⟨h, -⟩
    rotate_left
    · exact absurd c h
    have tb := jT_b (mu := m1) (w := w) (gr := g0) (by omega)
    refine V_aload_n C dL_docked_25 rfl ?_
    refine V_iconst C dL_docked_26 ?_
    refine V_iload C dL_docked_27 rfl ?_
    refine V_imul C dL_docked_29 ?_
    refine V_iconst C dL_docked_30 ?_
    refine V_iadd C dL_docked_31 ?_
    refine V_aload_n C dL_docked_32 rfl ?_
    refine V_aload_n C dL_docked_33 rfl ?_
    refine V_iload C dL_docked_34 rfl ?_
    refine V_callSD (nA := 3) C dL_docked_36 (l_tabs C.gp hL R1 (by omega) ⟨by omega, by omega⟩) gL_docked_L_tabs rfl (by decide +kernel) rfl (by decide) (by decide) (Nat.le_of_ble_eq_true rfl) ⟨by omega, by omega⟩ rfl ?_
    refine V_iast C dL_docked_39 hpp (by first | assumption | decide) (by omega) ?_
    refine V_aload_n C dL_docked_40 rfl ?_
    refine V_iconst C dL_docked_41 ?_
    refine V_iload C dL_docked_42 rfl ?_
    refine V_imul C dL_docked_44 ?_
    refine V_iconst C dL_docked_45 ?_
    refine V_iadd C dL_docked_46 ?_
    refine V_iload C dL_docked_47 rfl ?_
    refine V_iast C dL_docked_49 hpp (by first | assumption | decide) (by omega) ?_
    refine V_aload_n C dL_docked_50 rfl ?_
    refine V_bipush C dL_docked_51 (by decide +kernel) ?_
    refine V_iload C dL_docked_53 rfl ?_
    refine V_iadd C dL_docked_55 ?_
    refine V_iload C dL_docked_56 rfl ?_
    refine V_iast C dL_docked_58 hpp (by first | assumption | decide) (by omega) ?_
    have e9 : up (up (up m1 (w + 2) (4 * p + 3) (jT m1 w g0)) (w + 2) (4 * p + 2) g0) (w + 2) (20 + g0) p (w + 2) (4 * p + 3) = jT m1 w g0 := by
      rw [up_e, if_neg (by omega), up_e, if_neg (by omega), up_s]
    refine V_aload_n C dL_docked_59 rfl ?_
    refine V_iconst C dL_docked_60 ?_
    refine V_iload C dL_docked_61 rfl ?_
    refine V_imul C dL_docked_63 ?_
    refine V_iconst C dL_docked_64 ?_
    refine V_iadd C dL_docked_65 ?_
    refine V_iald C dL_docked_66 hpp (by first | assumption | decide) (by omega) ?_
    rw [e9]
    refine V_iconst C dL_docked_67 ?_
    refine V_iadd C dL_docked_68 ?_
    refine V_ireturn C E dL_docked_69 (by omega) (by omega) ?_
    rw [h, ha]
    exact Dt_rfl
set_option maxRecDepth 20000 in
theorem ggL_edged_L_takes : GoodIn wsL_edged wsL_takes := goodIn_r _ [4, 5, 6, 3, 7, 8, 9, 10, 11, 12, 13, 14, 15, 16, 17, 18, 19, 20, 21, 22, 23, 24, 25] (by decide +kernel) (by decide +kernel)
set_option maxRecDepth 20000 in
theorem gL_edged_L_takes : GoodIn wsL_edged (va_wsS RL 35 yL_takes wsL_takes) := goodIn_app (goodIn_of _ (by decide +kernel)) ggL_edged_L_takes
set_option maxRecDepth 20000 in
theorem ggL_edged_L_founds : GoodIn wsL_edged wsL_founds := goodIn_r _ [28, 5, 6, 3, 7] (by decide +kernel) (by decide +kernel)
set_option maxRecDepth 20000 in
theorem gL_edged_L_founds : GoodIn wsL_edged (va_wsS RL 39 yL_founds wsL_founds) := goodIn_app (goodIn_of _ (by decide +kernel)) ggL_edged_L_founds
set_option maxRecDepth 20000 in
theorem ggL_edged_L_put : GoodIn wsL_edged wsL_put := goodIn_r _ [31] (by decide +kernel) (by decide +kernel)
set_option maxRecDepth 20000 in
theorem gL_edged_L_put : GoodIn wsL_edged (va_wsS RL 42 yL_put wsL_put) := goodIn_app (goodIn_of _ (by decide +kernel)) ggL_edged_L_put
set_option maxRecDepth 20000 in
theorem ggL_edged_L_kids : GoodIn wsL_edged wsL_kids := goodIn_r _ [19, 20, 21, 3, 22, 23, 24, 25] (by decide +kernel) (by decide +kernel)
set_option maxRecDepth 20000 in
theorem gL_edged_L_kids : GoodIn wsL_edged (va_wsS RL 32 yL_kids wsL_kids) := goodIn_app (goodIn_of _ (by decide +kernel)) ggL_edged_L_kids
set_option maxRecDepth 20000 in
theorem ggL_edged_L_kid : GoodIn wsL_edged wsL_kid := goodIn_r _ [34, 20, 21, 3, 22, 23, 24, 25] (by decide +kernel) (by decide +kernel)
set_option maxRecDepth 20000 in
theorem gL_edged_L_kid : GoodIn wsL_edged (va_wsS RL 46 yL_kid wsL_kid) := goodIn_app (goodIn_of _ (by decide +kernel)) ggL_edged_L_kid
set_option maxRecDepth 20000 in
theorem ggL_edged_L_groups : GoodIn wsL_edged wsL_groups := goodIn_r _ [37] (by decide +kernel) (by decide +kernel)
set_option maxRecDepth 20000 in
theorem gL_edged_L_groups : GoodIn wsL_edged (va_wsS RL 50 yL_groups wsL_groups) := goodIn_app (goodIn_of _ (by decide +kernel)) ggL_edged_L_groups
theorem dL_edged_0 : decode cL_edged 0 = .ok (.aload_n 0, 1) := by decide +kernel
theorem dL_edged_1 : decode cL_edged 1 = .ok (.aload_n 1, 1) := by decide +kernel
theorem dL_edged_2 : decode cL_edged 2 = .ok (.aload_n 2, 1) := by decide +kernel
theorem dL_edged_3 : decode cL_edged 3 = .ok (.aload_n 3, 1) := by decide +kernel
theorem dL_edged_4 : decode cL_edged 4 = .ok (.iload 4, 2) := by decide +kernel
theorem dL_edged_6 : decode cL_edged 6 = .ok (.invokestatic 35, 3) := by decide +kernel
theorem dL_edged_9 : decode cL_edged 9 = .ok (.aload_n 0, 1) := by decide +kernel
theorem dL_edged_10 : decode cL_edged 10 = .ok (.aload_n 2, 1) := by decide +kernel
theorem dL_edged_11 : decode cL_edged 11 = .ok (.iload 4, 2) := by decide +kernel
theorem dL_edged_13 : decode cL_edged 13 = .ok (.invokestatic 39, 3) := by decide +kernel
theorem dL_edged_16 : decode cL_edged 16 = .ok (.istore 6, 2) := by decide +kernel
theorem dL_edged_18 : decode cL_edged 18 = .ok (.iconst 2, 1) := by decide +kernel
theorem dL_edged_19 : decode cL_edged 19 = .ok (.iload 5, 2) := by decide +kernel
theorem dL_edged_21 : decode cL_edged 21 = .ok (.iconst 2, 1) := by decide +kernel
theorem dL_edged_22 : decode cL_edged 22 = .ok (.idiv, 1) := by decide +kernel
theorem dL_edged_23 : decode cL_edged 23 = .ok (.iadd, 1) := by decide +kernel
theorem dL_edged_24 : decode cL_edged 24 = .ok (.istore 7, 2) := by decide +kernel
theorem dL_edged_26 : decode cL_edged 26 = .ok (.iload 5, 2) := by decide +kernel
theorem dL_edged_28 : decode cL_edged 28 = .ok (.iconst 2, 1) := by decide +kernel
theorem dL_edged_29 : decode cL_edged 29 = .ok (.irem, 1) := by decide +kernel
theorem dL_edged_30 : decode cL_edged 30 = .ok (.iconst 1, 1) := by decide +kernel
theorem dL_edged_31 : decode cL_edged 31 = .ok (.if_icmp .ne 7, 3) := by decide +kernel
theorem dL_edged_34 : decode cL_edged 34 = .ok (.iconst 1, 1) := by decide +kernel
theorem dL_edged_35 : decode cL_edged 35 = .ok (.goto 4, 3) := by decide +kernel
theorem dL_edged_38 : decode cL_edged 38 = .ok (.iconst 0, 1) := by decide +kernel
theorem dL_edged_39 : decode cL_edged 39 = .ok (.istore 8, 2) := by decide +kernel
theorem dL_edged_41 : decode cL_edged 41 = .ok (.aload_n 0, 1) := by decide +kernel
theorem dL_edged_42 : decode cL_edged 42 = .ok (.iconst 3, 1) := by decide +kernel
theorem dL_edged_43 : decode cL_edged 43 = .ok (.iaload, 1) := by decide +kernel
theorem dL_edged_44 : decode cL_edged 44 = .ok (.ifCond .ne 16, 3) := by decide +kernel
theorem dL_edged_47 : decode cL_edged 47 = .ok (.aload_n 0, 1) := by decide +kernel
theorem dL_edged_48 : decode cL_edged 48 = .ok (.aload_n 1, 1) := by decide +kernel
theorem dL_edged_49 : decode cL_edged 49 = .ok (.iconst 0, 1) := by decide +kernel
theorem dL_edged_50 : decode cL_edged 50 = .ok (.iconst 1, 1) := by decide +kernel
theorem dL_edged_51 : decode cL_edged 51 = .ok (.iconst 1, 1) := by decide +kernel
theorem dL_edged_52 : decode cL_edged 52 = .ok (.iload 6, 2) := by decide +kernel
theorem dL_edged_54 : decode cL_edged 54 = .ok (.invokestatic 42, 3) := by decide +kernel
theorem dL_edged_57 : decode cL_edged 57 = .ok (.goto 113, 3) := by decide +kernel
theorem dL_edged_60 : decode cL_edged 60 = .ok (.aload_n 1, 1) := by decide +kernel
theorem dL_edged_61 : decode cL_edged 61 = .ok (.iconst 0, 1) := by decide +kernel
theorem dL_edged_62 : decode cL_edged 62 = .ok (.iaload, 1) := by decide +kernel
theorem dL_edged_63 : decode cL_edged 63 = .ok (.iload 7, 2) := by decide +kernel
theorem dL_edged_65 : decode cL_edged 65 = .ok (.if_icmp .ne 59, 3) := by decide +kernel
theorem dL_edged_68 : decode cL_edged 68 = .ok (.aload_n 1, 1) := by decide +kernel
theorem dL_edged_69 : decode cL_edged 69 = .ok (.iconst 0, 1) := by decide +kernel
theorem dL_edged_70 : decode cL_edged 70 = .ok (.iload 8, 2) := by decide +kernel
theorem dL_edged_72 : decode cL_edged 72 = .ok (.ifCond .eq 13, 3) := by decide +kernel
theorem dL_edged_75 : decode cL_edged 75 = .ok (.aload_n 1, 1) := by decide +kernel
theorem dL_edged_76 : decode cL_edged 76 = .ok (.iconst 0, 1) := by decide +kernel
theorem dL_edged_77 : decode cL_edged 77 = .ok (.invokestatic 32, 3) := by decide +kernel
theorem dL_edged_80 : decode cL_edged 80 = .ok (.iconst 1, 1) := by decide +kernel
theorem dL_edged_81 : decode cL_edged 81 = .ok (.isub, 1) := by decide +kernel
theorem dL_edged_82 : decode cL_edged 82 = .ok (.goto 4, 3) := by decide +kernel
theorem dL_edged_85 : decode cL_edged 85 = .ok (.iconst 0, 1) := by decide +kernel
theorem dL_edged_86 : decode cL_edged 86 = .ok (.invokestatic 46, 3) := by decide +kernel
theorem dL_edged_89 : decode cL_edged 89 = .ok (.istore 9, 2) := by decide +kernel
theorem dL_edged_91 : decode cL_edged 91 = .ok (.aload_n 0, 1) := by decide +kernel
theorem dL_edged_92 : decode cL_edged 92 = .ok (.aload_n 1, 1) := by decide +kernel
theorem dL_edged_93 : decode cL_edged 93 = .ok (.iload 8, 2) := by decide +kernel
theorem dL_edged_95 : decode cL_edged 95 = .ok (.ifCond .eq 11, 3) := by decide +kernel
theorem dL_edged_98 : decode cL_edged 98 = .ok (.aload_n 0, 1) := by decide +kernel
theorem dL_edged_99 : decode cL_edged 99 = .ok (.iconst 3, 1) := by decide +kernel
theorem dL_edged_100 : decode cL_edged 100 = .ok (.iaload, 1) := by decide +kernel
theorem dL_edged_101 : decode cL_edged 101 = .ok (.iconst 1, 1) := by decide +kernel
theorem dL_edged_102 : decode cL_edged 102 = .ok (.isub, 1) := by decide +kernel
theorem dL_edged_103 : decode cL_edged 103 = .ok (.goto 4, 3) := by decide +kernel
theorem dL_edged_106 : decode cL_edged 106 = .ok (.iconst 1, 1) := by decide +kernel
theorem dL_edged_107 : decode cL_edged 107 = .ok (.iconst 1, 1) := by decide +kernel
theorem dL_edged_108 : decode cL_edged 108 = .ok (.aload_n 1, 1) := by decide +kernel
theorem dL_edged_109 : decode cL_edged 109 = .ok (.iconst 3, 1) := by decide +kernel
theorem dL_edged_110 : decode cL_edged 110 = .ok (.iload 9, 2) := by decide +kernel
theorem dL_edged_112 : decode cL_edged 112 = .ok (.imul, 1) := by decide +kernel
theorem dL_edged_113 : decode cL_edged 113 = .ok (.iconst 1, 1) := by decide +kernel
theorem dL_edged_114 : decode cL_edged 114 = .ok (.iadd, 1) := by decide +kernel
theorem dL_edged_115 : decode cL_edged 115 = .ok (.iaload, 1) := by decide +kernel
theorem dL_edged_116 : decode cL_edged 116 = .ok (.iload 6, 2) := by decide +kernel
theorem dL_edged_118 : decode cL_edged 118 = .ok (.invokestatic 42, 3) := by decide +kernel
theorem dL_edged_121 : decode cL_edged 121 = .ok (.goto 49, 3) := by decide +kernel
theorem dL_edged_124 : decode cL_edged 124 = .ok (.aload_n 1, 1) := by decide +kernel
theorem dL_edged_125 : decode cL_edged 125 = .ok (.iconst 1, 1) := by decide +kernel
theorem dL_edged_126 : decode cL_edged 126 = .ok (.iconst 1, 1) := by decide +kernel
theorem dL_edged_127 : decode cL_edged 127 = .ok (.iastore, 1) := by decide +kernel
theorem dL_edged_128 : decode cL_edged 128 = .ok (.aload_n 0, 1) := by decide +kernel
theorem dL_edged_129 : decode cL_edged 129 = .ok (.aload_n 1, 1) := by decide +kernel
theorem dL_edged_130 : decode cL_edged 130 = .ok (.iload 8, 2) := by decide +kernel
theorem dL_edged_132 : decode cL_edged 132 = .ok (.ifCond .eq 9, 3) := by decide +kernel
theorem dL_edged_135 : decode cL_edged 135 = .ok (.aload_n 0, 1) := by decide +kernel
theorem dL_edged_136 : decode cL_edged 136 = .ok (.iconst 3, 1) := by decide +kernel
theorem dL_edged_137 : decode cL_edged 137 = .ok (.iaload, 1) := by decide +kernel
theorem dL_edged_138 : decode cL_edged 138 = .ok (.goto 4, 3) := by decide +kernel
theorem dL_edged_141 : decode cL_edged 141 = .ok (.iconst 0, 1) := by decide +kernel
theorem dL_edged_142 : decode cL_edged 142 = .ok (.iconst 1, 1) := by decide +kernel
theorem dL_edged_143 : decode cL_edged 143 = .ok (.iconst 1, 1) := by decide +kernel
theorem dL_edged_144 : decode cL_edged 144 = .ok (.iload 6, 2) := by decide +kernel
theorem dL_edged_146 : decode cL_edged 146 = .ok (.invokestatic 42, 3) := by decide +kernel
theorem dL_edged_149 : decode cL_edged 149 = .ok (.aload_n 0, 1) := by decide +kernel
theorem dL_edged_150 : decode cL_edged 150 = .ok (.aload_n 1, 1) := by decide +kernel
theorem dL_edged_151 : decode cL_edged 151 = .ok (.iconst 0, 1) := by decide +kernel
theorem dL_edged_152 : decode cL_edged 152 = .ok (.iload 7, 2) := by decide +kernel
theorem dL_edged_154 : decode cL_edged 154 = .ok (.iconst 1, 1) := by decide +kernel
theorem dL_edged_155 : decode cL_edged 155 = .ok (.iconst (-1), 1) := by decide +kernel
theorem dL_edged_156 : decode cL_edged 156 = .ok (.invokestatic 42, 3) := by decide +kernel
theorem dL_edged_159 : decode cL_edged 159 = .ok (.aload_n 0, 1) := by decide +kernel
theorem dL_edged_160 : decode cL_edged 160 = .ok (.aload_n 1, 1) := by decide +kernel
theorem dL_edged_161 : decode cL_edged 161 = .ok (.aload_n 0, 1) := by decide +kernel
theorem dL_edged_162 : decode cL_edged 162 = .ok (.iconst 3, 1) := by decide +kernel
theorem dL_edged_163 : decode cL_edged 163 = .ok (.iaload, 1) := by decide +kernel
theorem dL_edged_164 : decode cL_edged 164 = .ok (.iconst 4, 1) := by decide +kernel
theorem dL_edged_165 : decode cL_edged 165 = .ok (.iconst 0, 1) := by decide +kernel
theorem dL_edged_166 : decode cL_edged 166 = .ok (.iconst (-1), 1) := by decide +kernel
theorem dL_edged_167 : decode cL_edged 167 = .ok (.invokestatic 42, 3) := by decide +kernel
theorem dL_edged_170 : decode cL_edged 170 = .ok (.aload_n 0, 1) := by decide +kernel
theorem dL_edged_171 : decode cL_edged 171 = .ok (.aload_n 1, 1) := by decide +kernel
theorem dL_edged_172 : decode cL_edged 172 = .ok (.invokestatic 50, 3) := by decide +kernel
theorem dL_edged_175 : decode cL_edged 175 = .ok (.ireturn, 1) := by decide +kernel
set_option maxHeartbeats 1000000 in
theorem l_edged (hG : GP G) (hL : LwS S w) (hR : R32 mu) {p side : Int} (hp : 0 ≤ p ∧ p < mu w 2) (hsd : 0 ≤ side ∧ side ≤ 3) (hm : mu w 2 ≤ 5) (hs : 0 ≤ mu w 3 ∧ mu w 3 ≤ 16) (h : jE mu w p side mu') (h3' : 0 ≤ mu' w 3 ∧ mu' w 3 ≤ 16) (hR' : R32 mu') :
    Ct G l yL_edged wsL_edged 5 0 0 [.ref w, .ref (w + 1), .ref (w + 2), .ref (w + 3), .int (I32 p), .int (I32 side)] S n mu la (Dt (some (.int (I32 (jG mu' w)))) S n mu' la) := by
  have hg := hL.1
  have hq := hL.2.1
  have hpp := hL.2.2.1
  obtain ⟨m1, g, hK, h3, hfg, h⟩ := h
  have gb := hfg.1
  obtain ⟨R1, e2⟩ := jK_R hR (by omega) hs.1 hK
  have RF : R32 (jF m1 w p g) := jF_R R1 w (by omega) hfg.1
  have F3 := jF_x m1 w p g (show w ≠ w + 2 by omega) 3
  refine Ct.ofV (cc := cL_edged) (nL := 10) (ret := (some .int)) [some (.ref w), some (.ref (w + 1)), some (.ref (w + 2)), some (.ref (w + 3)), some (.int (I32 p)), some (.int (I32 side)), none, none, none, none] hG (by decide) rfl (Nat.le_of_ble_eq_true rfl) rfl ?_
  rintro X rfl rfl C hcl hsl E
  refine V_aload_n C dL_edged_0 rfl ?_
  refine V_aload_n C dL_edged_1 rfl ?_
  refine V_aload_n C dL_edged_2 rfl ?_
  refine V_aload_n C dL_edged_3 rfl ?_
  refine V_iload C dL_edged_4 rfl ?_
  refine V_callS2D (nA := 5) C dL_edged_6 (l_takes C.gp hL hR hp hm hs hK) gL_edged_L_takes rfl (by decide +kernel) rfl (by decide) (by decide) (Nat.le_of_ble_eq_true rfl) ⟨by omega, by omega⟩ rfl ?_
  refine V_aload_n C dL_edged_9 rfl ?_
  refine V_aload_n C dL_edged_10 rfl ?_
  refine V_iload C dL_edged_11 rfl ?_
  refine V_callSD (nA := 3) C dL_edged_13 (l_founds C.gp hL R1 ⟨by omega, by omega⟩ (by omega) hfg.1 hfg.2.1 hfg.2.2) gL_edged_L_founds rfl (by decide +kernel) rfl (by decide) (by decide) (Nat.le_of_ble_eq_true rfl) ⟨by omega, by omega⟩ rfl ?_
  generalize jF m1 w p g = m at *
  have b0 := RF (w + 1) 0
  have fin : ∀ x : Option Value, V X 170 [some (.ref w), some (.ref (w + 1)), some (.ref (w + 2)), some (.ref (w + 3)), some (.int (I32 p)), some (.int (I32 side)), some (.int (I32 g)), some (.int (I32 (2 + side / 2))), some (.int (I32 (if side % 2 = 1 then 1 else 0))), x] [] S n mu' la 0 0 := by
    intro x
    refine V_aload_n C dL_edged_170 rfl ?_
    refine V_aload_n C dL_edged_171 rfl ?_
    refine V_callSD (nA := 2) C dL_edged_172 (l_groups C.gp hL hR' h3') gL_edged_L_groups rfl (by decide +kernel) rfl (by decide) (by decide) (Nat.le_of_ble_eq_true rfl) ⟨by omega, by omega⟩ rfl ?_
    refine V_ireturn C E dL_edged_175 (by omega) (by omega) ?_
    exact Dt_rfl
  refine V_istore C dL_edged_16 rfl (by decide) ?_
  refine V_iconst C dL_edged_18 ?_
  refine V_iload C dL_edged_19 rfl ?_
  refine V_iconst C dL_edged_21 ?_
  refine V_idiv C dL_edged_22 (by omega) (by omega) ?_
  refine V_iadd C dL_edged_23 ?_
  refine V_istore C dL_edged_24 rfl (by decide) ?_
  refine V_iload C dL_edged_26 rfl ?_
  refine V_iconst C dL_edged_28 ?_
  refine V_irem C dL_edged_29 (by omega) (by omega) ?_
  refine V_iconst C dL_edged_30 ?_
  have rest : V X 41 [some (.ref w), some (.ref (w + 1)), some (.ref (w + 2)), some (.ref (w + 3)), some (.int (I32 p)), some (.int (I32 side)), some (.int (I32 g)), some (.int (I32 (2 + side / 2))), some (.int (I32 (if side % 2 = 1 then 1 else 0))), none] [] S n m la 0 0 := by
    refine V_aload_n C dL_edged_41 rfl ?_
    refine V_iconst C dL_edged_42 ?_
    refine V_iald C dL_edged_43 hg (by first | assumption | decide) (by omega) ?_
    refine V_if_ne C 60 dL_edged_44 (by decide) (by omega) (fun c1 => ?_) (fun c1 => ?_)
    · refine V_aload_n C dL_edged_60 rfl ?_
      refine V_iconst C dL_edged_61 ?_
      refine V_iald C dL_edged_62 hq (by first | assumption | decide) (by omega) ?_
      refine V_iload C dL_edged_63 rfl ?_
      refine V_icmp_ne C 124 dL_edged_65 (by decide) (by omega) (by omega) (fun c2 => ?_) (fun c2 => ?_)
      · rcases h with ⟨h, -⟩ | ⟨-, h, -⟩ | ⟨-, -, h⟩
        · exact absurd h c1
        · exact absurd h c2
        have RA : R32 (up m (w + 1) 1 1) := R32_up RF _ _ (by omega)
        have A3 : up m (w + 1) 1 1 w 3 = m w 3 := by rw [up_e, if_neg (by omega)]
        refine V_aload_n C dL_edged_124 rfl ?_
        refine V_iconst C dL_edged_125 ?_
        refine V_iconst C dL_edged_126 ?_
        refine V_iast C dL_edged_127 hq (by first | assumption | decide) (by omega) ?_
        generalize up m (w + 1) 1 1 = mA at *
        refine V_aload_n C dL_edged_128 rfl ?_
        refine V_aload_n C dL_edged_129 rfl ?_
        refine V_iload C dL_edged_130 rfl ?_
        by_cases hl : side % 2 = 1
        · rw [if_pos hl] at h fin ⊢
          have RB : R32 (jP mA w (m w 3) 1 1 g) := jP_R RA w _ (by omega) (by omega) (by omega) (by omega)
          have B3 := jP_3 mA w (m w 3) 1 1 g
          refine V_if_eq C 141 dL_edged_132 (by decide) (by omega) (fun c3 => ?_) (fun c3 => ?_)
          · exact absurd c3 (by omega)
          · refine V_aload_n C dL_edged_135 rfl ?_
            refine V_iconst C dL_edged_136 ?_
            refine V_iald C dL_edged_137 hg (by first | assumption | decide) (by omega) ?_
            rw [A3]
            refine V_goto C 142 dL_edged_138 (by decide) ?_
            refine V_iconst C dL_edged_142 ?_
            refine V_iconst C dL_edged_143 ?_
            refine V_iload C dL_edged_144 rfl ?_
            refine V_callSD (nA := 6) C dL_edged_146 (l_put C.gp hL RA ⟨by omega, by omega⟩ (by omega)) gL_edged_L_put rfl (by decide +kernel) rfl (by decide) (by decide) (Nat.le_of_ble_eq_true rfl) ⟨by omega, by omega⟩ rfl ?_
            generalize jP mA w (m w 3) 1 1 g = mB at *
            have RD : R32 (jP mB w 0 (2 + side / 2) 1 (-1)) := jP_R RB w _ (by omega) (by omega) (by omega) (by omega)
            have D3 := jP_3 mB w 0 (2 + side / 2) 1 (-1)
            refine V_aload_n C dL_edged_149 rfl ?_
            refine V_aload_n C dL_edged_150 rfl ?_
            refine V_iconst C dL_edged_151 ?_
            refine V_iload C dL_edged_152 rfl ?_
            refine V_iconst C dL_edged_154 ?_
            refine V_iconst C dL_edged_155 ?_
            refine V_callSD (nA := 6) C dL_edged_156 (l_put C.gp hL RB ⟨by omega, by omega⟩ (by omega)) gL_edged_L_put rfl (by decide +kernel) rfl (by decide) (by decide) (Nat.le_of_ble_eq_true rfl) ⟨by omega, by omega⟩ rfl ?_
            generalize jP mB w 0 (2 + side / 2) 1 (-1) = mD at *
            refine V_aload_n C dL_edged_159 rfl ?_
            refine V_aload_n C dL_edged_160 rfl ?_
            refine V_aload_n C dL_edged_161 rfl ?_
            refine V_iconst C dL_edged_162 ?_
            refine V_iald C dL_edged_163 hg (by first | assumption | decide) (by omega) ?_
            rw [show mD w 3 = m w 3 + 2 by omega]
            refine V_iconst C dL_edged_164 ?_
            refine V_iconst C dL_edged_165 ?_
            refine V_iconst C dL_edged_166 ?_
            refine V_callSD (nA := 6) C dL_edged_167 (l_put C.gp hL RD ⟨by omega, by omega⟩ (by omega)) gL_edged_L_put rfl (by decide +kernel) rfl (by decide) (by decide) (Nat.le_of_ble_eq_true rfl) ⟨by omega, by omega⟩ rfl ?_
            rw [← h]
            exact fin _
        · rw [if_neg hl] at h fin ⊢
          have RB : R32 (jP mA w 0 1 1 g) := jP_R RA w _ (by omega) (by omega) (by omega) (by omega)
          have B3 := jP_3 mA w 0 1 1 g
          refine V_if_eq C 141 dL_edged_132 (by decide) (by omega) (fun c3 => ?_) (fun c3 => ?_)
          · refine V_iconst C dL_edged_141 ?_
            refine V_iconst C dL_edged_142 ?_
            refine V_iconst C dL_edged_143 ?_
            refine V_iload C dL_edged_144 rfl ?_
            refine V_callSD (nA := 6) C dL_edged_146 (l_put C.gp hL RA ⟨by omega, by omega⟩ (by omega)) gL_edged_L_put rfl (by decide +kernel) rfl (by decide) (by decide) (Nat.le_of_ble_eq_true rfl) ⟨by omega, by omega⟩ rfl ?_
            generalize jP mA w 0 1 1 g = mB at *
            have RD : R32 (jP mB w 0 (2 + side / 2) 1 (-1)) := jP_R RB w _ (by omega) (by omega) (by omega) (by omega)
            have D3 := jP_3 mB w 0 (2 + side / 2) 1 (-1)
            refine V_aload_n C dL_edged_149 rfl ?_
            refine V_aload_n C dL_edged_150 rfl ?_
            refine V_iconst C dL_edged_151 ?_
            refine V_iload C dL_edged_152 rfl ?_
            refine V_iconst C dL_edged_154 ?_
            refine V_iconst C dL_edged_155 ?_
            refine V_callSD (nA := 6) C dL_edged_156 (l_put C.gp hL RB ⟨by omega, by omega⟩ (by omega)) gL_edged_L_put rfl (by decide +kernel) rfl (by decide) (by decide) (Nat.le_of_ble_eq_true rfl) ⟨by omega, by omega⟩ rfl ?_
            generalize jP mB w 0 (2 + side / 2) 1 (-1) = mD at *
            refine V_aload_n C dL_edged_159 rfl ?_
            refine V_aload_n C dL_edged_160 rfl ?_
            refine V_aload_n C dL_edged_161 rfl ?_
            refine V_iconst C dL_edged_162 ?_
            refine V_iald C dL_edged_163 hg (by first | assumption | decide) (by omega) ?_
            rw [show mD w 3 = m w 3 + 2 by omega]
            refine V_iconst C dL_edged_164 ?_
            refine V_iconst C dL_edged_165 ?_
            refine V_iconst C dL_edged_166 ?_
            refine V_callSD (nA := 6) C dL_edged_167 (l_put C.gp hL RD ⟨by omega, by omega⟩ (by omega)) gL_edged_L_put rfl (by decide +kernel) rfl (by decide) (by decide) (Nat.le_of_ble_eq_true rfl) ⟨by omega, by omega⟩ rfl ?_
            rw [← h]
            exact fin _
          · exact absurd rfl c3
      · rcases h with ⟨h, -⟩ | ⟨-, -, N, q, hk, h4, hN, h⟩ | ⟨-, h, -⟩
        · exact absurd h c1
        rotate_left
        · exact absurd c2 h
        have kb := hk.2.1
        refine V_aload_n C dL_edged_68 rfl ?_
        refine V_iconst C dL_edged_69 ?_
        refine V_iload C dL_edged_70 rfl ?_
        by_cases hl : side % 2 = 1
        · rw [if_pos hl, if_pos hl] at h
          rw [if_pos hl] at fin ⊢
          have k1 := kb ((N : Int) - 1) (by omega) (by omega)
          refine V_if_eq C 85 dL_edged_72 (by decide) (by omega) (fun c3 => ?_) (fun c3 => ?_)
          · exact absurd c3 (by omega)
          · refine V_aload_n C dL_edged_75 rfl ?_
            refine V_iconst C dL_edged_76 ?_
            refine V_callSD (nA := 2) C dL_edged_77 (l_kids C.gp hq RF ⟨by omega, by omega⟩ hk h4) gL_edged_L_kids rfl (by decide +kernel) rfl (by decide) (by decide) (Nat.le_of_ble_eq_true rfl) ⟨by omega, by omega⟩ rfl ?_
            refine V_iconst C dL_edged_80 ?_
            refine V_isub C dL_edged_81 ?_
            refine V_goto C 86 dL_edged_82 (by decide) ?_
            refine V_callSD (nA := 3) C dL_edged_86 (l_kid C.gp hq RF ⟨by omega, by omega⟩ hk ⟨by omega, by omega⟩ (by omega)) gL_edged_L_kid rfl (by decide +kernel) rfl (by decide) (by decide) (Nat.le_of_ble_eq_true rfl) ⟨by omega, by omega⟩ rfl ?_
            refine V_istore C dL_edged_89 rfl (by decide) ?_
            refine V_aload_n C dL_edged_91 rfl ?_
            refine V_aload_n C dL_edged_92 rfl ?_
            refine V_iload C dL_edged_93 rfl ?_
            refine V_if_eq C 106 dL_edged_95 (by decide) (by omega) (fun c4 => ?_) (fun c4 => ?_)
            · exact absurd c4 (by omega)
            · refine V_aload_n C dL_edged_98 rfl ?_
              refine V_iconst C dL_edged_99 ?_
              refine V_iald C dL_edged_100 hg (by first | assumption | decide) (by omega) ?_
              refine V_iconst C dL_edged_101 ?_
              refine V_isub C dL_edged_102 ?_
              refine V_goto C 107 dL_edged_103 (by decide) ?_
              refine V_iconst C dL_edged_107 ?_
              refine V_aload_n C dL_edged_108 rfl ?_
              refine V_iconst C dL_edged_109 ?_
              refine V_iload C dL_edged_110 rfl ?_
              refine V_imul C dL_edged_112 ?_
              refine V_iconst C dL_edged_113 ?_
              refine V_iadd C dL_edged_114 ?_
              refine V_iald C dL_edged_115 hq (by first | assumption | decide) (by omega) ?_
              refine V_iload C dL_edged_116 rfl ?_
              refine V_callSD (nA := 6) C dL_edged_118 (l_put C.gp hL RF ⟨by omega, by omega⟩ (by omega)) gL_edged_L_put rfl (by decide +kernel) rfl (by decide) (by decide) (Nat.le_of_ble_eq_true rfl) ⟨by omega, by omega⟩ rfl ?_
              rw [← h]
              refine V_goto C 170 dL_edged_121 (by decide) ?_
              exact fin _
        · rw [if_neg hl, if_neg hl] at h
          rw [if_neg hl] at fin ⊢
          have k1 := kb 0 (by omega) (by omega)
          refine V_if_eq C 85 dL_edged_72 (by decide) (by omega) (fun c3 => ?_) (fun c3 => ?_)
          · refine V_iconst C dL_edged_85 ?_
            refine V_callSD (nA := 3) C dL_edged_86 (l_kid C.gp hq RF ⟨by omega, by omega⟩ hk ⟨by omega, by omega⟩ (by omega)) gL_edged_L_kid rfl (by decide +kernel) rfl (by decide) (by decide) (Nat.le_of_ble_eq_true rfl) ⟨by omega, by omega⟩ rfl ?_
            refine V_istore C dL_edged_89 rfl (by decide) ?_
            refine V_aload_n C dL_edged_91 rfl ?_
            refine V_aload_n C dL_edged_92 rfl ?_
            refine V_iload C dL_edged_93 rfl ?_
            refine V_if_eq C 106 dL_edged_95 (by decide) (by omega) (fun c4 => ?_) (fun c4 => ?_)
            · refine V_iconst C dL_edged_106 ?_
              refine V_iconst C dL_edged_107 ?_
              refine V_aload_n C dL_edged_108 rfl ?_
              refine V_iconst C dL_edged_109 ?_
              refine V_iload C dL_edged_110 rfl ?_
              refine V_imul C dL_edged_112 ?_
              refine V_iconst C dL_edged_113 ?_
              refine V_iadd C dL_edged_114 ?_
              refine V_iald C dL_edged_115 hq (by first | assumption | decide) (by omega) ?_
              refine V_iload C dL_edged_116 rfl ?_
              refine V_callSD (nA := 6) C dL_edged_118 (l_put C.gp hL RF ⟨by omega, by omega⟩ (by omega)) gL_edged_L_put rfl (by decide +kernel) rfl (by decide) (by decide) (Nat.le_of_ble_eq_true rfl) ⟨by omega, by omega⟩ rfl ?_
              rw [← h]
              refine V_goto C 170 dL_edged_121 (by decide) ?_
              exact fin _
            · exact absurd rfl c4
          · exact absurd rfl c3
    · rcases h with ⟨-, h⟩ | ⟨h, -⟩ | ⟨h, -⟩
      rotate_left
      · exact absurd c1 h
      · exact absurd c1 h
      refine V_aload_n C dL_edged_47 rfl ?_
      refine V_aload_n C dL_edged_48 rfl ?_
      refine V_iconst C dL_edged_49 ?_
      refine V_iconst C dL_edged_50 ?_
      refine V_iconst C dL_edged_51 ?_
      refine V_iload C dL_edged_52 rfl ?_
      refine V_callSD (nA := 6) C dL_edged_54 (l_put C.gp hL RF ⟨by omega, by omega⟩ (by omega)) gL_edged_L_put rfl (by decide +kernel) rfl (by decide) (by decide) (Nat.le_of_ble_eq_true rfl) ⟨by omega, by omega⟩ rfl ?_
      rw [← h]
      refine V_goto C 170 dL_edged_57 (by decide) ?_
      exact fin _
  refine V_icmp_ne C 38 dL_edged_31 (by decide) (by omega) (by omega) (fun c => ?_) (fun c => ?_)
  · rw [if_neg c] at rest
    refine V_iconst C dL_edged_38 ?_
    refine V_istore C dL_edged_39 rfl (by decide) ?_
    exact rest
  · rw [if_pos c] at rest
    refine V_iconst C dL_edged_34 ?_
    refine V_goto C 39 dL_edged_35 (by decide) ?_
    refine V_istore C dL_edged_39 rfl (by decide) ?_
    exact rest
end LR4
