/-! THE LAW OF p32: a pane is taken away -/
/-- the places behind the gap come nearer, among the first j panes -/
def jK1 (mu : Mem) (w : Nat) (gr pl j : Int) : Mem := fun a i => if a = w + 2 ∧ (0 ≤ i ∧ i < 4 * j ∧ i % 4 = 3) ∧ mu (w + 2) (i - 1) = gr ∧ pl < mu (w + 2) i then mu a i - 1 else mu a i
def jNG (p : Int → Int) (gr pl : Int) : Nat → Int
  | 0 => -1
  | n + 1 => if p (4 * n + 2) = gr ∧ (if pl < p (4 * n + 3) then p (4 * n + 3) - 1 else p (4 * n + 3)) = pl then n else jNG p gr pl n
def jMG (p : Int → Int) (gr v e : Int) : Nat → Int
  | 0 => -1
  | d + 1 => if p (4 * (e - (d + 1)) + 2) = gr ∧ p (4 * (e - (d + 1)) + 3) = v then e - (d + 1) else jMG p gr v e d
/-- the rows of the panes behind the pane's going -/
def jKm (mu : Mem) (w : Nat) (p : Int) : Mem := jK1 (up mu (w + 2) (4 * p + 2) (-1)) w (mu (w + 2) (4 * p + 2)) (mu (w + 2) (4 * p + 3)) (mu w 2)
/-- the pane that comes next -/
def jKn (mu : Mem) (w : Nat) (p : Int) : Int :=
  let x := jNG (up mu (w + 2) (4 * p + 2) (-1) (w + 2)) (mu (w + 2) (4 * p + 2)) (mu (w + 2) (4 * p + 3)) (mu w 2).toNat
  if 0 ≤ x then x else jMG (jKm mu w p (w + 2)) (mu (w + 2) (4 * p + 2)) (jT (jKm mu w p) w (mu (w + 2) (4 * p + 2)) - 1) (mu w 2) (mu w 2).toNat
def jKf1 (mu : Mem) (w : Nat) (t j : Int) : Mem := fun a i => if a = w + 3 ∧ t ≤ i ∧ i < j then mu a (i + 1) else if a = w ∧ i = 4 then mu w 4 - 1 else mu a i
/-- the floating group at place t goes -/
def jKf (mu : Mem) (w : Nat) (t : Int) : Mem := jKf1 mu w t (mu w 4 - 1)
/-- a group's last pane went: the group goes -/
def jKg (m : Mem) (w : Nat) (gr : Int) (mu' : Mem) : Prop :=
  (jS m w gr < 0 ∧ ∃ t : Int, (0 ≤ t ∧ t < m w 4 ∧ m w 4 ≤ 5) ∧ m (w + 3) t = gr ∧ (∀ x : Int, 0 ≤ x → x < t → m (w + 3) x ≠ gr) ∧ mu' = jKf m w t) ∨
  (0 ≤ jS m w gr ∧ ∃ o : Int, UpP (m (w + 1)) (jS m w gr) o ∧
    ((o < 0 ∧ mu' = jC m w (jS m w gr)) ∨
     (0 ≤ o ∧ ∃ (N : Nat) (q : Int → Int), KidP (jC m w (jS m w gr) (w + 1)) o N q ∧ jC m w (jS m w gr) (w + 1) (3 * q N) = 4 ∧ N ≤ 20 ∧
       ((N ≠ 1 ∧ mu' = jC m w (jS m w gr)) ∨
        (N = 1 ∧ ∃ e : Int, o + 2 ≤ e ∧ e < m w 3 - 1 ∧ EndP (up (jC m w (jS m w gr)) (w + 1) (3 * o + 4) (jC m w (jS m w gr) (w + 1) (3 * o + 1)) (w + 1)) o e ∧
           mu' = jC (jC (up (jC m w (jS m w gr)) (w + 1) (3 * o + 4) (jC m w (jS m w gr) (w + 1) (3 * o + 1))) w e) w o)))))
/-- what taking away makes of the law's rows -/
def jK (mu : Mem) (w : Nat) (p : Int) (mu' : Mem) : Prop :=
  (mu (w + 2) (4 * p + 2) < 0 ∧ mu' = mu) ∨
  ((0 ≤ mu (w + 2) (4 * p + 2) ∧ mu (w + 2) (4 * p + 2) < 5) ∧
    ((0 < jT (jKm mu w p) w (mu (w + 2) (4 * p + 2)) ∧ mu' = up (jKm mu w p) (w + 2) (20 + mu (w + 2) (4 * p + 2)) (if mu (w + 2) (20 + mu (w + 2) (4 * p + 2)) = p then jKn mu w p else mu (w + 2) (20 + mu (w + 2) (4 * p + 2)))) ∨
     (jT (jKm mu w p) w (mu (w + 2) (4 * p + 2)) ≤ 0 ∧ jKg (jKm mu w p) w (mu (w + 2) (4 * p + 2)) mu')))
theorem jK1_0 (mu : Mem) (w : Nat) (gr pl : Int) : jK1 mu w gr pl 0 = mu := by
  funext a i
  unfold jK1
  rw [if_neg (by omega)]
theorem jK1_x (mu : Mem) (w : Nat) (gr pl j : Int) {a : Nat} {i : Int} (h : a ≠ w + 2 ∨ i % 4 ≠ 3 ∨ 4 * j ≤ i) : jK1 mu w gr pl j a i = mu a i := by
  unfold jK1
  rw [if_neg (by omega)]
theorem jK1_s (mu : Mem) (w : Nat) {gr pl j : Int} (hj : 0 ≤ j) (h : mu (w + 2) (4 * j + 2) = gr) : up (jK1 mu w gr pl j) (w + 2) (4 * j + 3) (if pl < mu (w + 2) (4 * j + 3) then mu (w + 2) (4 * j + 3) - 1 else mu (w + 2) (4 * j + 3)) = jK1 mu w gr pl (j + 1) := by
  funext a i
  rw [up_e]
  unfold jK1
  by_cases h1 : a = w + 2
  · subst h1
    by_cases h2 : i = 4 * j + 3
    · subst h2
      rw [if_pos ⟨rfl, rfl⟩, show 4 * j + 3 - 1 = 4 * j + 2 by omega]
      by_cases h3 : pl < mu (w + 2) (4 * j + 3)
      · rw [if_pos h3, if_pos ⟨rfl, ⟨by omega, by omega, by omega⟩, h, h3⟩]
      · rw [if_neg h3, if_neg (fun q => h3 q.2.2.2)]
    · rw [if_neg (fun q => h2 q.2)]
      by_cases h3 : (0 ≤ i ∧ i < 4 * j ∧ i % 4 = 3) ∧ mu (w + 2) (i - 1) = gr ∧ pl < mu (w + 2) i
      · rw [if_pos ⟨rfl, h3⟩, if_pos ⟨rfl, ⟨h3.1.1, by omega, h3.1.2.2⟩, h3.2⟩]
      · rw [if_neg (fun q => h3 q.2), if_neg (fun q => h3 ⟨⟨q.2.1.1, by omega, q.2.1.2.2⟩, q.2.2⟩)]
  · rw [if_neg (fun q => h1 q.1), if_neg (fun q => h1 q.1), if_neg (fun q => h1 q.1)]
theorem jK1_n (mu : Mem) (w : Nat) {gr pl j : Int} (h : mu (w + 2) (4 * j + 2) ≠ gr) : jK1 mu w gr pl j = jK1 mu w gr pl (j + 1) := by
  funext a i
  unfold jK1
  by_cases h1 : a = w + 2
  · subst h1
    by_cases h2 : i = 4 * j + 3
    · subst h2
      rw [show 4 * j + 3 - 1 = 4 * j + 2 by omega, if_neg (fun q => h q.2.2.1), if_neg (fun q => h q.2.2.1)]
    · by_cases h3 : (0 ≤ i ∧ i < 4 * j ∧ i % 4 = 3) ∧ mu (w + 2) (i - 1) = gr ∧ pl < mu (w + 2) i
      · rw [if_pos ⟨rfl, h3⟩, if_pos ⟨rfl, ⟨h3.1.1, by omega, h3.1.2.2⟩, h3.2⟩]
      · rw [if_neg (fun q => h3 q.2), if_neg (fun q => h3 ⟨⟨q.2.1.1, by omega, q.2.1.2.2⟩, q.2.2⟩)]
  · rw [if_neg (fun q => h1 q.1), if_neg (fun q => h1 q.1)]
theorem jNG_s {p : Int → Int} {gr pl i : Int} (h : 0 ≤ i) : jNG p gr pl (i + 1).toNat = if p (4 * i + 2) = gr ∧ (if pl < p (4 * i + 3) then p (4 * i + 3) - 1 else p (4 * i + 3)) = pl then i else jNG p gr pl i.toNat := by
  obtain ⟨n, rfl⟩ := nat_of h
  rw [show ((n : Int) + 1).toNat = n + 1 by omega, show (n : Int).toNat = n by omega]
  rfl
theorem jNG_b (p : Int → Int) (gr pl : Int) : ∀ n : Nat, -1 ≤ jNG p gr pl n ∧ jNG p gr pl n < n
  | 0 => by simp [jNG]
  | n + 1 => by
    have := jNG_b p gr pl n
    unfold jNG
    split <;> omega
theorem jMG_b (p : Int → Int) (gr v e : Int) : ∀ n : Nat, n ≤ e → -1 ≤ jMG p gr v e n ∧ jMG p gr v e n < e
  | 0, h => by simp [jMG]; omega
  | n + 1, h => by
    have := jMG_b p gr v e n (by omega)
    unfold jMG
    split <;> omega
theorem jK1_R {mu : Mem} (h : R32 mu) (w : Nat) (gr pl j : Int) (hp : -2147483648 ≤ pl) : R32 (jK1 mu w gr pl j) := fun y i => by
  have := h y i
  unfold jK1
  split
  · rename_i z
    have e := z.1
    have := z.2.2.2
    subst e
    omega
  · exact this
theorem jC_R {mu : Mem} (h : R32 mu) (w : Nat) (t : Int) (hm : 0 ≤ mu w 3) : R32 (jC mu w t) := fun y i => by
  unfold jC jC1
  split
  · exact h _ _
  · split
    · have := h w 3; omega
    · exact h _ _
theorem jKf1_0 (mu : Mem) (w : Nat) (t : Int) : up mu w 4 (mu w 4 - 1) = jKf1 mu w t t := by
  funext a i
  unfold jKf1
  rw [up_e, if_neg (show ¬ (a = w + 3 ∧ t ≤ i ∧ i < t) by omega)]
theorem jKf1_4 (mu : Mem) (w : Nat) (t j : Int) : jKf1 mu w t j w 4 = mu w 4 - 1 := by
  unfold jKf1
  rw [if_neg (by omega), if_pos ⟨rfl, rfl⟩]
theorem jKf1_s (mu : Mem) (w : Nat) {t j : Int} (h : t ≤ j) : up (jKf1 mu w t j) (w + 3) j (jKf1 mu w t j (w + 3) (j + 1)) = jKf1 mu w t (j + 1) := by
  funext a i
  rw [up_e]
  unfold jKf1
  by_cases h1 : a = w + 3
  · subst h1
    by_cases h2 : i = j
    · subst h2
      rw [if_pos ⟨rfl, rfl⟩, if_neg (by omega), if_neg (by omega), if_pos ⟨rfl, by omega, by omega⟩]
    · rw [if_neg (by omega)]
      by_cases h3 : t ≤ i ∧ i < j
      · rw [if_pos ⟨rfl, h3⟩, if_pos ⟨rfl, by omega, by omega⟩]
      · rw [if_neg (by omega), if_neg (by omega), if_neg (by omega)]
  · simp only [h1, false_and, if_false]
theorem jC_3 (mu : Mem) (w : Nat) (t : Int) : jC mu w t w 3 = mu w 3 - 1 := jC1_3 _ _ _ _
section LR3
variable {G : Gx} {l : Launch} {S : Sh} {n : Nat} {mu mu' : Mem} {la : Lam} {w : Nat}
set_option maxRecDepth 20000 in
theorem ggL_takes_L_tabs : GoodIn wsL_takes wsL_tabs := goodIn_r _ [4] (by decide +kernel) (by decide +kernel)
set_option maxRecDepth 20000 in
theorem gL_takes_L_tabs : GoodIn wsL_takes (va_wsS RL 22 yL_tabs wsL_tabs) := goodIn_app (goodIn_of _ (by decide +kernel)) ggL_takes_L_tabs
set_option maxRecDepth 20000 in
theorem ggL_takes_L_signOf : GoodIn wsL_takes wsL_signOf := goodIn_r _ [7] (by decide +kernel) (by decide +kernel)
set_option maxRecDepth 20000 in
theorem gL_takes_L_signOf : GoodIn wsL_takes (va_wsS RL 18 yL_signOf wsL_signOf) := goodIn_app (goodIn_of _ (by decide +kernel)) ggL_takes_L_signOf
set_option maxRecDepth 20000 in
theorem ggL_takes_L_up : GoodIn wsL_takes wsL_up := goodIn_r _ [10] (by decide +kernel) (by decide +kernel)
set_option maxRecDepth 20000 in
theorem gL_takes_L_up : GoodIn wsL_takes (va_wsS RL 25 yL_up wsL_up) := goodIn_app (goodIn_of _ (by decide +kernel)) ggL_takes_L_up
set_option maxRecDepth 20000 in
theorem ggL_takes_L_cut : GoodIn wsL_takes wsL_cut := goodIn_r _ [13] (by decide +kernel) (by decide +kernel)
set_option maxRecDepth 20000 in
theorem gL_takes_L_cut : GoodIn wsL_takes (va_wsS RL 28 yL_cut wsL_cut) := goodIn_app (goodIn_of _ (by decide +kernel)) ggL_takes_L_cut
set_option maxRecDepth 20000 in
theorem ggL_takes_L_kids : GoodIn wsL_takes wsL_kids := goodIn_r _ [16, 17, 18, 3, 19, 20, 21, 22] (by decide +kernel) (by decide +kernel)
set_option maxRecDepth 20000 in
theorem gL_takes_L_kids : GoodIn wsL_takes (va_wsS RL 32 yL_kids wsL_kids) := goodIn_app (goodIn_of _ (by decide +kernel)) ggL_takes_L_kids
set_option maxRecDepth 20000 in
theorem ggL_takes_L_end : GoodIn wsL_takes wsL_end := goodIn_r _ [22] (by decide +kernel) (by decide +kernel)
set_option maxRecDepth 20000 in
theorem gL_takes_L_end : GoodIn wsL_takes (va_wsS RL 9 yL_end wsL_end) := goodIn_app (goodIn_of _ (by decide +kernel)) ggL_takes_L_end
theorem dL_takes_0 : decode cL_takes 0 = .ok (.aload_n 2, 1) := by decide +kernel
theorem dL_takes_1 : decode cL_takes 1 = .ok (.iconst 4, 1) := by decide +kernel
theorem dL_takes_2 : decode cL_takes 2 = .ok (.iload 4, 2) := by decide +kernel
theorem dL_takes_4 : decode cL_takes 4 = .ok (.imul, 1) := by decide +kernel
theorem dL_takes_5 : decode cL_takes 5 = .ok (.iconst 2, 1) := by decide +kernel
theorem dL_takes_6 : decode cL_takes 6 = .ok (.iadd, 1) := by decide +kernel
theorem dL_takes_7 : decode cL_takes 7 = .ok (.iaload, 1) := by decide +kernel
theorem dL_takes_8 : decode cL_takes 8 = .ok (.istore 5, 2) := by decide +kernel
theorem dL_takes_10 : decode cL_takes 10 = .ok (.iload 5, 2) := by decide +kernel
theorem dL_takes_12 : decode cL_takes 12 = .ok (.ifCond .ge 4, 3) := by decide +kernel
theorem dL_takes_15 : decode cL_takes 15 = .ok (.return_, 1) := by decide +kernel
theorem dL_takes_16 : decode cL_takes 16 = .ok (.aload_n 2, 1) := by decide +kernel
theorem dL_takes_17 : decode cL_takes 17 = .ok (.iconst 4, 1) := by decide +kernel
theorem dL_takes_18 : decode cL_takes 18 = .ok (.iload 4, 2) := by decide +kernel
theorem dL_takes_20 : decode cL_takes 20 = .ok (.imul, 1) := by decide +kernel
theorem dL_takes_21 : decode cL_takes 21 = .ok (.iconst 3, 1) := by decide +kernel
theorem dL_takes_22 : decode cL_takes 22 = .ok (.iadd, 1) := by decide +kernel
theorem dL_takes_23 : decode cL_takes 23 = .ok (.iaload, 1) := by decide +kernel
theorem dL_takes_24 : decode cL_takes 24 = .ok (.istore 6, 2) := by decide +kernel
theorem dL_takes_26 : decode cL_takes 26 = .ok (.aload_n 2, 1) := by decide +kernel
theorem dL_takes_27 : decode cL_takes 27 = .ok (.iconst 4, 1) := by decide +kernel
theorem dL_takes_28 : decode cL_takes 28 = .ok (.iload 4, 2) := by decide +kernel
theorem dL_takes_30 : decode cL_takes 30 = .ok (.imul, 1) := by decide +kernel
theorem dL_takes_31 : decode cL_takes 31 = .ok (.iconst 2, 1) := by decide +kernel
theorem dL_takes_32 : decode cL_takes 32 = .ok (.iadd, 1) := by decide +kernel
theorem dL_takes_33 : decode cL_takes 33 = .ok (.iconst (-1), 1) := by decide +kernel
theorem dL_takes_34 : decode cL_takes 34 = .ok (.iastore, 1) := by decide +kernel
theorem dL_takes_35 : decode cL_takes 35 = .ok (.iconst (-1), 1) := by decide +kernel
theorem dL_takes_36 : decode cL_takes 36 = .ok (.istore 7, 2) := by decide +kernel
theorem dL_takes_38 : decode cL_takes 38 = .ok (.iconst 0, 1) := by decide +kernel
theorem dL_takes_39 : decode cL_takes 39 = .ok (.istore 8, 2) := by decide +kernel
theorem dL_takes_41 : decode cL_takes 41 = .ok (.iload 8, 2) := by decide +kernel
theorem dL_takes_43 : decode cL_takes 43 = .ok (.aload_n 0, 1) := by decide +kernel
theorem dL_takes_44 : decode cL_takes 44 = .ok (.iconst 2, 1) := by decide +kernel
theorem dL_takes_45 : decode cL_takes 45 = .ok (.iaload, 1) := by decide +kernel
theorem dL_takes_46 : decode cL_takes 46 = .ok (.if_icmp .ge 73, 3) := by decide +kernel
theorem dL_takes_49 : decode cL_takes 49 = .ok (.aload_n 2, 1) := by decide +kernel
theorem dL_takes_50 : decode cL_takes 50 = .ok (.iconst 4, 1) := by decide +kernel
theorem dL_takes_51 : decode cL_takes 51 = .ok (.iload 8, 2) := by decide +kernel
theorem dL_takes_53 : decode cL_takes 53 = .ok (.imul, 1) := by decide +kernel
theorem dL_takes_54 : decode cL_takes 54 = .ok (.iconst 2, 1) := by decide +kernel
theorem dL_takes_55 : decode cL_takes 55 = .ok (.iadd, 1) := by decide +kernel
theorem dL_takes_56 : decode cL_takes 56 = .ok (.iaload, 1) := by decide +kernel
theorem dL_takes_57 : decode cL_takes 57 = .ok (.iload 5, 2) := by decide +kernel
theorem dL_takes_59 : decode cL_takes 59 = .ok (.if_icmp .ne 54, 3) := by decide +kernel
theorem dL_takes_62 : decode cL_takes 62 = .ok (.aload_n 2, 1) := by decide +kernel
theorem dL_takes_63 : decode cL_takes 63 = .ok (.iconst 4, 1) := by decide +kernel
theorem dL_takes_64 : decode cL_takes 64 = .ok (.iload 8, 2) := by decide +kernel
theorem dL_takes_66 : decode cL_takes 66 = .ok (.imul, 1) := by decide +kernel
theorem dL_takes_67 : decode cL_takes 67 = .ok (.iconst 3, 1) := by decide +kernel
theorem dL_takes_68 : decode cL_takes 68 = .ok (.iadd, 1) := by decide +kernel
theorem dL_takes_69 : decode cL_takes 69 = .ok (.dup2, 1) := by decide +kernel
theorem dL_takes_70 : decode cL_takes 70 = .ok (.iaload, 1) := by decide +kernel
theorem dL_takes_71 : decode cL_takes 71 = .ok (.aload_n 2, 1) := by decide +kernel
theorem dL_takes_72 : decode cL_takes 72 = .ok (.iconst 4, 1) := by decide +kernel
theorem dL_takes_73 : decode cL_takes 73 = .ok (.iload 8, 2) := by decide +kernel
theorem dL_takes_75 : decode cL_takes 75 = .ok (.imul, 1) := by decide +kernel
theorem dL_takes_76 : decode cL_takes 76 = .ok (.iconst 3, 1) := by decide +kernel
theorem dL_takes_77 : decode cL_takes 77 = .ok (.iadd, 1) := by decide +kernel
theorem dL_takes_78 : decode cL_takes 78 = .ok (.iaload, 1) := by decide +kernel
theorem dL_takes_79 : decode cL_takes 79 = .ok (.iload 6, 2) := by decide +kernel
theorem dL_takes_81 : decode cL_takes 81 = .ok (.if_icmp .le 7, 3) := by decide +kernel
theorem dL_takes_84 : decode cL_takes 84 = .ok (.iconst 1, 1) := by decide +kernel
theorem dL_takes_85 : decode cL_takes 85 = .ok (.goto 4, 3) := by decide +kernel
theorem dL_takes_88 : decode cL_takes 88 = .ok (.iconst 0, 1) := by decide +kernel
theorem dL_takes_89 : decode cL_takes 89 = .ok (.isub, 1) := by decide +kernel
theorem dL_takes_90 : decode cL_takes 90 = .ok (.iastore, 1) := by decide +kernel
theorem dL_takes_91 : decode cL_takes 91 = .ok (.aload_n 2, 1) := by decide +kernel
theorem dL_takes_92 : decode cL_takes 92 = .ok (.iconst 4, 1) := by decide +kernel
theorem dL_takes_93 : decode cL_takes 93 = .ok (.iload 8, 2) := by decide +kernel
theorem dL_takes_95 : decode cL_takes 95 = .ok (.imul, 1) := by decide +kernel
theorem dL_takes_96 : decode cL_takes 96 = .ok (.iconst 3, 1) := by decide +kernel
theorem dL_takes_97 : decode cL_takes 97 = .ok (.iadd, 1) := by decide +kernel
theorem dL_takes_98 : decode cL_takes 98 = .ok (.iaload, 1) := by decide +kernel
theorem dL_takes_99 : decode cL_takes 99 = .ok (.iload 6, 2) := by decide +kernel
theorem dL_takes_101 : decode cL_takes 101 = .ok (.if_icmp .ne 8, 3) := by decide +kernel
theorem dL_takes_104 : decode cL_takes 104 = .ok (.iload 8, 2) := by decide +kernel
theorem dL_takes_106 : decode cL_takes 106 = .ok (.goto 5, 3) := by decide +kernel
theorem dL_takes_109 : decode cL_takes 109 = .ok (.iload 7, 2) := by decide +kernel
theorem dL_takes_111 : decode cL_takes 111 = .ok (.istore 7, 2) := by decide +kernel
theorem dL_takes_113 : decode cL_takes 113 = .ok (.iinc 8 1, 3) := by decide +kernel
theorem dL_takes_116 : decode cL_takes 116 = .ok (.goto (-75), 3) := by decide +kernel
theorem dL_takes_119 : decode cL_takes 119 = .ok (.aload_n 0, 1) := by decide +kernel
theorem dL_takes_120 : decode cL_takes 120 = .ok (.aload_n 2, 1) := by decide +kernel
theorem dL_takes_121 : decode cL_takes 121 = .ok (.iload 5, 2) := by decide +kernel
theorem dL_takes_123 : decode cL_takes 123 = .ok (.invokestatic 22, 3) := by decide +kernel
theorem dL_takes_126 : decode cL_takes 126 = .ok (.istore 8, 2) := by decide +kernel
theorem dL_takes_128 : decode cL_takes 128 = .ok (.iconst 0, 1) := by decide +kernel
theorem dL_takes_129 : decode cL_takes 129 = .ok (.istore 9, 2) := by decide +kernel
theorem dL_takes_131 : decode cL_takes 131 = .ok (.iload 9, 2) := by decide +kernel
theorem dL_takes_133 : decode cL_takes 133 = .ok (.aload_n 0, 1) := by decide +kernel
theorem dL_takes_134 : decode cL_takes 134 = .ok (.iconst 2, 1) := by decide +kernel
theorem dL_takes_135 : decode cL_takes 135 = .ok (.iaload, 1) := by decide +kernel
theorem dL_takes_136 : decode cL_takes 136 = .ok (.if_icmp .ge 56, 3) := by decide +kernel
theorem dL_takes_139 : decode cL_takes 139 = .ok (.iload 8, 2) := by decide +kernel
theorem dL_takes_141 : decode cL_takes 141 = .ok (.ifCond .le 51, 3) := by decide +kernel
theorem dL_takes_144 : decode cL_takes 144 = .ok (.iload 7, 2) := by decide +kernel
theorem dL_takes_146 : decode cL_takes 146 = .ok (.ifCond .ge 46, 3) := by decide +kernel
theorem dL_takes_149 : decode cL_takes 149 = .ok (.aload_n 2, 1) := by decide +kernel
theorem dL_takes_150 : decode cL_takes 150 = .ok (.iconst 4, 1) := by decide +kernel
theorem dL_takes_151 : decode cL_takes 151 = .ok (.iload 9, 2) := by decide +kernel
theorem dL_takes_153 : decode cL_takes 153 = .ok (.imul, 1) := by decide +kernel
theorem dL_takes_154 : decode cL_takes 154 = .ok (.iconst 2, 1) := by decide +kernel
theorem dL_takes_155 : decode cL_takes 155 = .ok (.iadd, 1) := by decide +kernel
theorem dL_takes_156 : decode cL_takes 156 = .ok (.iaload, 1) := by decide +kernel
theorem dL_takes_157 : decode cL_takes 157 = .ok (.iload 5, 2) := by decide +kernel
theorem dL_takes_159 : decode cL_takes 159 = .ok (.if_icmp .ne 23, 3) := by decide +kernel
theorem dL_takes_162 : decode cL_takes 162 = .ok (.aload_n 2, 1) := by decide +kernel
theorem dL_takes_163 : decode cL_takes 163 = .ok (.iconst 4, 1) := by decide +kernel
theorem dL_takes_164 : decode cL_takes 164 = .ok (.iload 9, 2) := by decide +kernel
theorem dL_takes_166 : decode cL_takes 166 = .ok (.imul, 1) := by decide +kernel
theorem dL_takes_167 : decode cL_takes 167 = .ok (.iconst 3, 1) := by decide +kernel
theorem dL_takes_168 : decode cL_takes 168 = .ok (.iadd, 1) := by decide +kernel
theorem dL_takes_169 : decode cL_takes 169 = .ok (.iaload, 1) := by decide +kernel
theorem dL_takes_170 : decode cL_takes 170 = .ok (.iload 8, 2) := by decide +kernel
theorem dL_takes_172 : decode cL_takes 172 = .ok (.iconst 1, 1) := by decide +kernel
theorem dL_takes_173 : decode cL_takes 173 = .ok (.isub, 1) := by decide +kernel
theorem dL_takes_174 : decode cL_takes 174 = .ok (.if_icmp .ne 8, 3) := by decide +kernel
theorem dL_takes_177 : decode cL_takes 177 = .ok (.iload 9, 2) := by decide +kernel
theorem dL_takes_179 : decode cL_takes 179 = .ok (.goto 5, 3) := by decide +kernel
theorem dL_takes_182 : decode cL_takes 182 = .ok (.iload 7, 2) := by decide +kernel
theorem dL_takes_184 : decode cL_takes 184 = .ok (.istore 7, 2) := by decide +kernel
theorem dL_takes_186 : decode cL_takes 186 = .ok (.iinc 9 1, 3) := by decide +kernel
theorem dL_takes_189 : decode cL_takes 189 = .ok (.goto (-58), 3) := by decide +kernel
theorem dL_takes_192 : decode cL_takes 192 = .ok (.iload 8, 2) := by decide +kernel
theorem dL_takes_194 : decode cL_takes 194 = .ok (.ifCond .le 35, 3) := by decide +kernel
theorem dL_takes_197 : decode cL_takes 197 = .ok (.aload_n 2, 1) := by decide +kernel
theorem dL_takes_198 : decode cL_takes 198 = .ok (.bipush 20, 2) := by decide +kernel
theorem dL_takes_200 : decode cL_takes 200 = .ok (.iload 5, 2) := by decide +kernel
theorem dL_takes_202 : decode cL_takes 202 = .ok (.iadd, 1) := by decide +kernel
theorem dL_takes_203 : decode cL_takes 203 = .ok (.aload_n 2, 1) := by decide +kernel
theorem dL_takes_204 : decode cL_takes 204 = .ok (.bipush 20, 2) := by decide +kernel
theorem dL_takes_206 : decode cL_takes 206 = .ok (.iload 5, 2) := by decide +kernel
theorem dL_takes_208 : decode cL_takes 208 = .ok (.iadd, 1) := by decide +kernel
theorem dL_takes_209 : decode cL_takes 209 = .ok (.iaload, 1) := by decide +kernel
theorem dL_takes_210 : decode cL_takes 210 = .ok (.iload 4, 2) := by decide +kernel
theorem dL_takes_212 : decode cL_takes 212 = .ok (.if_icmp .ne 8, 3) := by decide +kernel
theorem dL_takes_215 : decode cL_takes 215 = .ok (.iload 7, 2) := by decide +kernel
theorem dL_takes_217 : decode cL_takes 217 = .ok (.goto 10, 3) := by decide +kernel
theorem dL_takes_220 : decode cL_takes 220 = .ok (.aload_n 2, 1) := by decide +kernel
theorem dL_takes_221 : decode cL_takes 221 = .ok (.bipush 20, 2) := by decide +kernel
theorem dL_takes_223 : decode cL_takes 223 = .ok (.iload 5, 2) := by decide +kernel
theorem dL_takes_225 : decode cL_takes 225 = .ok (.iadd, 1) := by decide +kernel
theorem dL_takes_226 : decode cL_takes 226 = .ok (.iaload, 1) := by decide +kernel
theorem dL_takes_227 : decode cL_takes 227 = .ok (.iastore, 1) := by decide +kernel
theorem dL_takes_228 : decode cL_takes 228 = .ok (.return_, 1) := by decide +kernel
theorem dL_takes_229 : decode cL_takes 229 = .ok (.aload_n 0, 1) := by decide +kernel
theorem dL_takes_230 : decode cL_takes 230 = .ok (.aload_n 1, 1) := by decide +kernel
theorem dL_takes_231 : decode cL_takes 231 = .ok (.iload 5, 2) := by decide +kernel
theorem dL_takes_233 : decode cL_takes 233 = .ok (.invokestatic 18, 3) := by decide +kernel
theorem dL_takes_236 : decode cL_takes 236 = .ok (.istore 9, 2) := by decide +kernel
theorem dL_takes_238 : decode cL_takes 238 = .ok (.iload 9, 2) := by decide +kernel
theorem dL_takes_240 : decode cL_takes 240 = .ok (.ifCond .ge 57, 3) := by decide +kernel
theorem dL_takes_243 : decode cL_takes 243 = .ok (.iconst 0, 1) := by decide +kernel
theorem dL_takes_244 : decode cL_takes 244 = .ok (.istore 10, 2) := by decide +kernel
theorem dL_takes_246 : decode cL_takes 246 = .ok (.aload_n 3, 1) := by decide +kernel
theorem dL_takes_247 : decode cL_takes 247 = .ok (.iload 10, 2) := by decide +kernel
theorem dL_takes_249 : decode cL_takes 249 = .ok (.iaload, 1) := by decide +kernel
theorem dL_takes_250 : decode cL_takes 250 = .ok (.iload 5, 2) := by decide +kernel
theorem dL_takes_252 : decode cL_takes 252 = .ok (.if_icmp .eq 9, 3) := by decide +kernel
theorem dL_takes_255 : decode cL_takes 255 = .ok (.iinc 10 1, 3) := by decide +kernel
theorem dL_takes_258 : decode cL_takes 258 = .ok (.goto (-12), 3) := by decide +kernel
theorem dL_takes_261 : decode cL_takes 261 = .ok (.aload_n 0, 1) := by decide +kernel
theorem dL_takes_262 : decode cL_takes 262 = .ok (.iconst 4, 1) := by decide +kernel
theorem dL_takes_263 : decode cL_takes 263 = .ok (.dup2, 1) := by decide +kernel
theorem dL_takes_264 : decode cL_takes 264 = .ok (.iaload, 1) := by decide +kernel
theorem dL_takes_265 : decode cL_takes 265 = .ok (.iconst 1, 1) := by decide +kernel
theorem dL_takes_266 : decode cL_takes 266 = .ok (.isub, 1) := by decide +kernel
theorem dL_takes_267 : decode cL_takes 267 = .ok (.iastore, 1) := by decide +kernel
theorem dL_takes_268 : decode cL_takes 268 = .ok (.iload 10, 2) := by decide +kernel
theorem dL_takes_270 : decode cL_takes 270 = .ok (.istore 11, 2) := by decide +kernel
theorem dL_takes_272 : decode cL_takes 272 = .ok (.iload 11, 2) := by decide +kernel
theorem dL_takes_274 : decode cL_takes 274 = .ok (.aload_n 0, 1) := by decide +kernel
theorem dL_takes_275 : decode cL_takes 275 = .ok (.iconst 4, 1) := by decide +kernel
theorem dL_takes_276 : decode cL_takes 276 = .ok (.iaload, 1) := by decide +kernel
theorem dL_takes_277 : decode cL_takes 277 = .ok (.if_icmp .ge 19, 3) := by decide +kernel
theorem dL_takes_280 : decode cL_takes 280 = .ok (.aload_n 3, 1) := by decide +kernel
theorem dL_takes_281 : decode cL_takes 281 = .ok (.iload 11, 2) := by decide +kernel
theorem dL_takes_283 : decode cL_takes 283 = .ok (.aload_n 3, 1) := by decide +kernel
theorem dL_takes_284 : decode cL_takes 284 = .ok (.iload 11, 2) := by decide +kernel
theorem dL_takes_286 : decode cL_takes 286 = .ok (.iconst 1, 1) := by decide +kernel
theorem dL_takes_287 : decode cL_takes 287 = .ok (.iadd, 1) := by decide +kernel
theorem dL_takes_288 : decode cL_takes 288 = .ok (.iaload, 1) := by decide +kernel
theorem dL_takes_289 : decode cL_takes 289 = .ok (.iastore, 1) := by decide +kernel
theorem dL_takes_290 : decode cL_takes 290 = .ok (.iinc 11 1, 3) := by decide +kernel
theorem dL_takes_293 : decode cL_takes 293 = .ok (.goto (-21), 3) := by decide +kernel
theorem dL_takes_296 : decode cL_takes 296 = .ok (.return_, 1) := by decide +kernel
theorem dL_takes_297 : decode cL_takes 297 = .ok (.aload_n 1, 1) := by decide +kernel
theorem dL_takes_298 : decode cL_takes 298 = .ok (.iload 9, 2) := by decide +kernel
theorem dL_takes_300 : decode cL_takes 300 = .ok (.invokestatic 25, 3) := by decide +kernel
theorem dL_takes_303 : decode cL_takes 303 = .ok (.istore 10, 2) := by decide +kernel
theorem dL_takes_305 : decode cL_takes 305 = .ok (.aload_n 0, 1) := by decide +kernel
theorem dL_takes_306 : decode cL_takes 306 = .ok (.aload_n 1, 1) := by decide +kernel
theorem dL_takes_307 : decode cL_takes 307 = .ok (.iload 9, 2) := by decide +kernel
theorem dL_takes_309 : decode cL_takes 309 = .ok (.invokestatic 28, 3) := by decide +kernel
theorem dL_takes_312 : decode cL_takes 312 = .ok (.iload 10, 2) := by decide +kernel
theorem dL_takes_314 : decode cL_takes 314 = .ok (.ifCond .lt 47, 3) := by decide +kernel
theorem dL_takes_317 : decode cL_takes 317 = .ok (.aload_n 1, 1) := by decide +kernel
theorem dL_takes_318 : decode cL_takes 318 = .ok (.iload 10, 2) := by decide +kernel
theorem dL_takes_320 : decode cL_takes 320 = .ok (.invokestatic 32, 3) := by decide +kernel
theorem dL_takes_323 : decode cL_takes 323 = .ok (.iconst 1, 1) := by decide +kernel
theorem dL_takes_324 : decode cL_takes 324 = .ok (.if_icmp .ne 37, 3) := by decide +kernel
theorem dL_takes_327 : decode cL_takes 327 = .ok (.aload_n 1, 1) := by decide +kernel
theorem dL_takes_328 : decode cL_takes 328 = .ok (.iconst 3, 1) := by decide +kernel
theorem dL_takes_329 : decode cL_takes 329 = .ok (.iload 10, 2) := by decide +kernel
theorem dL_takes_331 : decode cL_takes 331 = .ok (.imul, 1) := by decide +kernel
theorem dL_takes_332 : decode cL_takes 332 = .ok (.iconst 4, 1) := by decide +kernel
theorem dL_takes_333 : decode cL_takes 333 = .ok (.iadd, 1) := by decide +kernel
theorem dL_takes_334 : decode cL_takes 334 = .ok (.aload_n 1, 1) := by decide +kernel
theorem dL_takes_335 : decode cL_takes 335 = .ok (.iconst 3, 1) := by decide +kernel
theorem dL_takes_336 : decode cL_takes 336 = .ok (.iload 10, 2) := by decide +kernel
theorem dL_takes_338 : decode cL_takes 338 = .ok (.imul, 1) := by decide +kernel
theorem dL_takes_339 : decode cL_takes 339 = .ok (.iconst 1, 1) := by decide +kernel
theorem dL_takes_340 : decode cL_takes 340 = .ok (.iadd, 1) := by decide +kernel
theorem dL_takes_341 : decode cL_takes 341 = .ok (.iaload, 1) := by decide +kernel
theorem dL_takes_342 : decode cL_takes 342 = .ok (.iastore, 1) := by decide +kernel
theorem dL_takes_343 : decode cL_takes 343 = .ok (.aload_n 0, 1) := by decide +kernel
theorem dL_takes_344 : decode cL_takes 344 = .ok (.aload_n 1, 1) := by decide +kernel
theorem dL_takes_345 : decode cL_takes 345 = .ok (.aload_n 1, 1) := by decide +kernel
theorem dL_takes_346 : decode cL_takes 346 = .ok (.iload 10, 2) := by decide +kernel
theorem dL_takes_348 : decode cL_takes 348 = .ok (.invokestatic 9, 3) := by decide +kernel
theorem dL_takes_351 : decode cL_takes 351 = .ok (.invokestatic 28, 3) := by decide +kernel
theorem dL_takes_354 : decode cL_takes 354 = .ok (.aload_n 0, 1) := by decide +kernel
theorem dL_takes_355 : decode cL_takes 355 = .ok (.aload_n 1, 1) := by decide +kernel
theorem dL_takes_356 : decode cL_takes 356 = .ok (.iload 10, 2) := by decide +kernel
theorem dL_takes_358 : decode cL_takes 358 = .ok (.invokestatic 28, 3) := by decide +kernel
theorem dL_takes_361 : decode cL_takes 361 = .ok (.return_, 1) := by decide +kernel
theorem l_takes (hG : GP G) (hL : LwS S w) (hR : R32 mu) {p : Int} (hp : 0 ≤ p ∧ p < mu w 2) (hm : mu w 2 ≤ 5) (hs : 0 ≤ mu w 3 ∧ mu w 3 ≤ 16) (h : jK mu w p mu') :
    Ct G l yL_takes wsL_takes 3 0 0 [.ref w, .ref (w + 1), .ref (w + 2), .ref (w + 3), .int (I32 p)] S n mu la (Dt none S n mu' la) := by
  have hg := hL.1
  have hq := hL.2.1
  have hpp := hL.2.2.1
  have hf := hL.2.2.2
  have b2 := hR (w + 2) (4 * p + 2)
  have b3 := hR (w + 2) (4 * p + 3)
  refine Ct.ofV (cc := cL_takes) (nL := 12) (ret := none) [some (.ref w), some (.ref (w + 1)), some (.ref (w + 2)), some (.ref (w + 3)), some (.int (I32 p)), none, none, none, none, none, none, none] hG (by decide) rfl (Nat.le_of_ble_eq_true rfl) rfl ?_
  rintro X rfl rfl C hcl hsl E
  refine V_aload_n C dL_takes_0 rfl ?_
  refine V_iconst C dL_takes_1 ?_
  refine V_iload C dL_takes_2 rfl ?_
  refine V_imul C dL_takes_4 ?_
  refine V_iconst C dL_takes_5 ?_
  refine V_iadd C dL_takes_6 ?_
  refine V_iald C dL_takes_7 hpp (by first | assumption | decide) (by omega) ?_
  refine V_istore C dL_takes_8 rfl (by decide) ?_
  refine V_iload C dL_takes_10 rfl ?_
  refine V_if_ge C 16 dL_takes_12 (by decide) (by omega) (fun c => ?_) (fun c => ?_)
  rotate_left
  · rcases h with ⟨-, h⟩ | ⟨⟨h, -⟩, -⟩
    · refine V_return C E dL_takes_15 (by omega) (by omega) ?_
      rw [h]
      exact Dt_rfl
    · exact absurd c (by omega)
  rcases h with ⟨h, -⟩ | ⟨hgr, h⟩
  · exact absurd c (by omega)
  have hm1R : R32 (up mu (w + 2) (4 * p + 2) (-1)) := R32_up hR _ _ (by omega)
  generalize e1 : up mu (w + 2) (4 * p + 2) (-1) = m1 at hm1R
  have d2 : m1 w 2 = mu w 2 := by rw [← e1, up_e, if_neg (by omega)]
  have d3 : m1 w 3 = mu w 3 := by rw [← e1, up_e, if_neg (by omega)]
  have d20 : m1 (w + 2) (20 + mu (w + 2) (4 * p + 2)) = mu (w + 2) (20 + mu (w + 2) (4 * p + 2)) := by rw [← e1, up_e, if_neg (by omega)]
  have eKm : jKm mu w p = jK1 m1 w (mu (w + 2) (4 * p + 2)) (mu (w + 2) (4 * p + 3)) (mu w 2) := by rw [← e1]; rfl
  have eKn : jKn mu w p = if 0 ≤ jNG (m1 (w + 2)) (mu (w + 2) (4 * p + 2)) (mu (w + 2) (4 * p + 3)) (mu w 2).toNat then jNG (m1 (w + 2)) (mu (w + 2) (4 * p + 2)) (mu (w + 2) (4 * p + 3)) (mu w 2).toNat else jMG (jKm mu w p (w + 2)) (mu (w + 2) (4 * p + 2)) (jT (jKm mu w p) w (mu (w + 2) (4 * p + 2)) - 1) (mu w 2) (mu w 2).toNat := by rw [← e1]; rfl
  rw [eKm] at h
  rw [eKm] at eKn
  generalize ekn : jKn mu w p = kn at h eKn
  generalize egr : mu (w + 2) (4 * p + 2) = gr at *
  generalize epl : mu (w + 2) (4 * p + 3) = pl at *
  have hmR : R32 (jK1 m1 w gr pl (mu w 2)) := jK1_R hm1R _ _ _ _ b3.1
  -- the first loop
  have tail : ∀ nx : Int, nx = jNG (m1 (w + 2)) gr pl (mu w 2).toNat → V X 119 [some (.ref w), some (.ref (w + 1)), some (.ref (w + 2)), some (.ref (w + 3)), some (.int (I32 p)), some (.int (I32 gr)), some (.int (I32 pl)), some (.int (I32 nx)), some (.int (I32 (mu w 2))), none, none, none] [] S n (jK1 m1 w gr pl (mu w 2)) la 0 0 := by
    intro nx hnx
    have nb := jNG_b (m1 (w + 2)) gr pl (mu w 2).toNat
    rw [← hnx] at nb eKn
    generalize em : jK1 m1 w gr pl (mu w 2) = m at *
    have f2 : m w 2 = mu w 2 := by rw [← em, jK1_x _ _ _ _ _ (by omega), d2]
    have f3 : m w 3 = mu w 3 := by rw [← em, jK1_x _ _ _ _ _ (by omega), d3]
    have f20 : m (w + 2) (20 + gr) = mu (w + 2) (20 + gr) := by rw [← em, jK1_x _ _ _ _ _ (by omega), d20]
    have tb := jT_b (mu := m) (w := w) (gr := gr) (by omega)
    refine V_aload_n C dL_takes_119 rfl ?_
    refine V_aload_n C dL_takes_120 rfl ?_
    refine V_iload C dL_takes_121 rfl ?_
    refine V_callSD (nA := 3) C dL_takes_123 (l_tabs C.gp hL hmR (by omega) ⟨by omega, by omega⟩) gL_takes_L_tabs rfl (by decide +kernel) rfl (by decide) (by decide) (Nat.le_of_ble_eq_true rfl) ⟨by omega, by omega⟩ rfl ?_
    refine V_istore C dL_takes_126 rfl (by decide) ?_
    refine V_iconst C dL_takes_128 ?_
    refine V_istore C dL_takes_129 rfl (by decide) ?_
    generalize ety : jT m w gr = ty at *
    -- behind the second loop
    have fin : ∀ nz y : Int, (0 < ty → nz = kn) → (-1 ≤ nz ∧ nz < 5) → V X 192 [some (.ref w), some (.ref (w + 1)), some (.ref (w + 2)), some (.ref (w + 3)), some (.int (I32 p)), some (.int (I32 gr)), some (.int (I32 pl)), some (.int (I32 nz)), some (.int (I32 ty)), some (.int (I32 y)), none, none] [] S n m la 0 0 := by
      intro nz y hz bz
      refine V_iload C dL_takes_192 rfl ?_
      refine V_if_le C 229 dL_takes_194 (by decide) (by omega) (fun c9 => ?_) (fun c9 => ?_)
      · -- the group goes
        rcases h with ⟨h, -⟩ | ⟨-, h⟩
        · exact absurd c9 (by omega)
        have sb := jS_b (mu := m) (w := w) (gr := gr) (by omega)
        refine V_aload_n C dL_takes_229 rfl ?_
        refine V_aload_n C dL_takes_230 rfl ?_
        refine V_iload C dL_takes_231 rfl ?_
        refine V_callSD (nA := 3) C dL_takes_233 (l_signOf C.gp hL hmR (by omega) ⟨by omega, by omega⟩) gL_takes_L_signOf rfl (by decide +kernel) rfl (by decide) (by decide) (Nat.le_of_ble_eq_true rfl) ⟨by omega, by omega⟩ rfl ?_
        refine V_istore C dL_takes_236 rfl (by decide) ?_
        refine V_iload C dL_takes_238 rfl ?_
        refine V_if_ge C 297 dL_takes_240 (by decide) (by omega) (fun c8 => ?_) (fun c8 => ?_)
        · rcases h with ⟨h, -⟩ | ⟨h0, o, hu, h⟩
          · exact absurd c8 (by omega)
          have ub := hu.1
          have cR : R32 (jC m w (jS m w gr)) := jC_R hmR _ _ (by omega)
          have c3 := jC_3 m w (jS m w gr)
          refine V_aload_n C dL_takes_297 rfl ?_
          refine V_iload C dL_takes_298 rfl ?_
          refine V_callSD (nA := 2) C dL_takes_300 (l_up C.gp hq hmR hu) gL_takes_L_up rfl (by decide +kernel) rfl (by decide) (by decide) (Nat.le_of_ble_eq_true rfl) ⟨by omega, by omega⟩ rfl ?_
          refine V_istore C dL_takes_303 rfl (by decide) ?_
          refine V_aload_n C dL_takes_305 rfl ?_
          refine V_aload_n C dL_takes_306 rfl ?_
          refine V_iload C dL_takes_307 rfl ?_
          refine V_callSD (nA := 3) C dL_takes_309 (l_cut C.gp hL hmR ⟨by omega, by omega⟩ (by omega)) gL_takes_L_cut rfl (by decide +kernel) rfl (by decide) (by decide) (Nat.le_of_ble_eq_true rfl) ⟨by omega, by omega⟩ rfl ?_
          generalize em2 : jC m w (jS m w gr) = m2 at *
          refine V_iload C dL_takes_312 rfl ?_
          refine V_if_lt C 361 dL_takes_314 (by decide) (by omega) (fun c7 => ?_) (fun c7 => ?_)
          · rcases h with ⟨-, h⟩ | ⟨h, -⟩
            · refine V_return C E dL_takes_361 (by omega) (by omega) ?_
              rw [h]
              exact Dt_rfl
            · exact absurd c7 (by omega)
          · rcases h with ⟨h, -⟩ | ⟨-, N, q, hk, h4, hN, h⟩
            · exact absurd c7 (by omega)
            refine V_aload_n C dL_takes_317 rfl ?_
            refine V_iload C dL_takes_318 rfl ?_
            refine V_callSD (nA := 2) C dL_takes_320 (l_kids C.gp hq cR ⟨by omega, by omega⟩ hk h4) gL_takes_L_kids rfl (by decide +kernel) rfl (by decide) (by decide) (Nat.le_of_ble_eq_true rfl) ⟨by omega, by omega⟩ rfl ?_
            refine V_iconst C dL_takes_323 ?_
            refine V_icmp_ne C 361 dL_takes_324 (by decide) (by omega) (by omega) (fun c6 => ?_) (fun c6 => ?_)
            · rcases h with ⟨-, h⟩ | ⟨h, -⟩
              · refine V_return C E dL_takes_361 (by omega) (by omega) ?_
                rw [h]
                exact Dt_rfl
              · exact absurd (by omega) c6
            · rcases h with ⟨h, -⟩ | ⟨-, e, he1, he2, hend, h⟩
              · exact absurd c6 (by omega)
              have wR : R32 (up m2 (w + 1) (3 * o + 4) (m2 (w + 1) (3 * o + 1))) := R32_up cR _ _ (cR _ _)
              have g3 : up m2 (w + 1) (3 * o + 4) (m2 (w + 1) (3 * o + 1)) w 3 = m2 w 3 := by rw [up_e, if_neg (by omega)]
              refine V_aload_n C dL_takes_327 rfl ?_
              refine V_iconst C dL_takes_328 ?_
              refine V_iload C dL_takes_329 rfl ?_
              refine V_imul C dL_takes_331 ?_
              refine V_iconst C dL_takes_332 ?_
              refine V_iadd C dL_takes_333 ?_
              refine V_aload_n C dL_takes_334 rfl ?_
              refine V_iconst C dL_takes_335 ?_
              refine V_iload C dL_takes_336 rfl ?_
              refine V_imul C dL_takes_338 ?_
              refine V_iconst C dL_takes_339 ?_
              refine V_iadd C dL_takes_340 ?_
              refine V_iald C dL_takes_341 hq (by first | assumption | decide) (by omega) ?_
              refine V_iast C dL_takes_342 hq (by first | assumption | decide) (by omega) ?_
              generalize em3 : up m2 (w + 1) (3 * o + 4) (m2 (w + 1) (3 * o + 1)) = m3 at *
              have eR : R32 (jC m3 w e) := jC_R wR _ _ (by omega)
              have k3 := jC_3 m3 w e
              refine V_aload_n C dL_takes_343 rfl ?_
              refine V_aload_n C dL_takes_344 rfl ?_
              refine V_aload_n C dL_takes_345 rfl ?_
              refine V_iload C dL_takes_346 rfl ?_
              refine V_callSD (nA := 2) C dL_takes_348 (l_end C.gp hq wR hend) gL_takes_L_end rfl (by decide +kernel) rfl (by decide) (by decide) (Nat.le_of_ble_eq_true rfl) ⟨by omega, by omega⟩ rfl ?_
              refine V_callSD (nA := 3) C dL_takes_351 (l_cut C.gp hL wR ⟨by omega, by omega⟩ (by omega)) gL_takes_L_cut rfl (by decide +kernel) rfl (by decide) (by decide) (Nat.le_of_ble_eq_true rfl) ⟨by omega, by omega⟩ rfl ?_
              refine V_aload_n C dL_takes_354 rfl ?_
              refine V_aload_n C dL_takes_355 rfl ?_
              refine V_iload C dL_takes_356 rfl ?_
              refine V_callSD (nA := 3) C dL_takes_358 (l_cut C.gp hL eR ⟨by omega, by omega⟩ (by omega)) gL_takes_L_cut rfl (by decide +kernel) rfl (by decide) (by decide) (Nat.le_of_ble_eq_true rfl) ⟨by omega, by omega⟩ rfl ?_
              refine V_return C E dL_takes_361 (by omega) (by omega) ?_
              rw [h]
              exact Dt_rfl
        · rcases h with ⟨-, t, ht, hft, hfx, h⟩ | ⟨h, -⟩
          rotate_left
          · exact absurd c8 (by omega)
          -- its place among the floating ones
          have find : ∀ (k : Nat) (x : Int), 0 ≤ x → x + k = t → V X 246 [some (.ref w), some (.ref (w + 1)), some (.ref (w + 2)), some (.ref (w + 3)), some (.int (I32 p)), some (.int (I32 gr)), some (.int (I32 pl)), some (.int (I32 nz)), some (.int (I32 ty)), some (.int (I32 (jS m w gr))), some (.int (I32 x)), none] [] S n m la 0 0 := by
            intro k
            induction k with
            | zero =>
              intro x x1 x2
              have ex : x = t := by omega
              subst ex
              have b1 := hmR (w + 3) x
              refine V_aload_n C dL_takes_246 rfl ?_
              refine V_iload C dL_takes_247 rfl ?_
              refine V_iald C dL_takes_249 hf (by first | assumption | decide) (by omega) ?_
              refine V_iload C dL_takes_250 rfl ?_
              refine V_icmp_eq C 261 dL_takes_252 (by decide) (by omega) (by omega) (fun c5 => ?_) (fun c5 => ?_)
              · have sh : ∀ (k : Nat) (y : Int), x ≤ y → y + k = m w 4 - 1 → V X 272 [some (.ref w), some (.ref (w + 1)), some (.ref (w + 2)), some (.ref (w + 3)), some (.int (I32 p)), some (.int (I32 gr)), some (.int (I32 pl)), some (.int (I32 nz)), some (.int (I32 ty)), some (.int (I32 (jS m w gr))), some (.int (I32 x)), some (.int (I32 y))] [] S n (jKf1 m w x y) la 0 0 := by
                  intro k
                  induction k with
                  | zero =>
                    intro y y1 y2
                    have ey : y = m w 4 - 1 := by omega
                    subst ey
                    have k4 := jKf1_4 m w x (m w 4 - 1)
                    refine V_iload C dL_takes_272 rfl ?_
                    refine V_aload_n C dL_takes_274 rfl ?_
                    refine V_iconst C dL_takes_275 ?_
                    refine V_iald C dL_takes_276 hg (by first | assumption | decide) (by omega) ?_
                    refine V_icmp_ge C 296 dL_takes_277 (by decide) (by omega) (by omega) (fun c4 => ?_) (fun c4 => ?_)
                    · refine V_return C E dL_takes_296 (by omega) (by omega) ?_
                      rw [h]
                      exact Dt_rfl
                    · exact absurd c4 (by omega)
                  | succ k ih =>
                    intro y y1 y2
                    have ih := ih (y + 1) (by omega) (by omega)
                    have k4 := jKf1_4 m w x y
                    refine V_iload C dL_takes_272 rfl ?_
                    refine V_aload_n C dL_takes_274 rfl ?_
                    refine V_iconst C dL_takes_275 ?_
                    refine V_iald C dL_takes_276 hg (by first | assumption | decide) (by omega) ?_
                    refine V_icmp_ge C 296 dL_takes_277 (by decide) (by omega) (by omega) (fun c4 => ?_) (fun c4 => ?_)
                    · exact absurd c4 (by omega)
                    · refine V_aload_n C dL_takes_280 rfl ?_
                      refine V_iload C dL_takes_281 rfl ?_
                      refine V_aload_n C dL_takes_283 rfl ?_
                      refine V_iload C dL_takes_284 rfl ?_
                      refine V_iconst C dL_takes_286 ?_
                      refine V_iadd C dL_takes_287 ?_
                      refine V_iald C dL_takes_288 hf (by first | assumption | decide) (by omega) ?_
                      refine V_iast C dL_takes_289 hf (by first | assumption | decide) (by omega) ?_
                      rw [jKf1_s m w y1]
                      refine V_iinc C dL_takes_290 rfl rfl (by decide) ?_
                      refine V_goto C 272 dL_takes_293 (by decide) ?_
                      exact ih
                have sh9 := sh (m w 4 - 1 - x).toNat x (by omega) (by omega)
                rw [← jKf1_0] at sh9
                refine V_aload_n C dL_takes_261 rfl ?_
                refine V_iconst C dL_takes_262 ?_
                refine V_dup2 C dL_takes_263 rfl rfl ?_
                refine V_iald C dL_takes_264 hg (by first | assumption | decide) (by omega) ?_
                refine V_iconst C dL_takes_265 ?_
                refine V_isub C dL_takes_266 ?_
                refine V_iast C dL_takes_267 hg (by first | assumption | decide) (by omega) ?_
                refine V_iload C dL_takes_268 rfl ?_
                refine V_istore C dL_takes_270 rfl (by decide) ?_
                exact sh9
              · exact absurd hft c5
            | succ k ih =>
              intro x x1 x2
              have ih := ih (x + 1) (by omega) (by omega)
              have b1 := hmR (w + 3) x
              have nf := hfx x x1 (by omega)
              refine V_aload_n C dL_takes_246 rfl ?_
              refine V_iload C dL_takes_247 rfl ?_
              refine V_iald C dL_takes_249 hf (by first | assumption | decide) (by omega) ?_
              refine V_iload C dL_takes_250 rfl ?_
              refine V_icmp_eq C 261 dL_takes_252 (by decide) (by omega) (by omega) (fun c5 => ?_) (fun c5 => ?_)
              · exact absurd c5 nf
              · refine V_iinc C dL_takes_255 rfl rfl (by decide) ?_
                refine V_goto C 246 dL_takes_258 (by decide) ?_
                exact ih
          have f9 := find t.toNat 0 (by omega) (by omega)
          refine V_iconst C dL_takes_243 ?_
          refine V_istore C dL_takes_244 rfl (by decide) ?_
          exact f9
      · rcases h with ⟨-, h⟩ | ⟨h, -⟩
        rotate_left
        · exact absurd c9 (by omega)
        have b20 := hmR (w + 2) (20 + gr)
        have hz := hz c9
        refine V_aload_n C dL_takes_197 rfl ?_
        refine V_bipush C dL_takes_198 (by decide +kernel) ?_
        refine V_iload C dL_takes_200 rfl ?_
        refine V_iadd C dL_takes_202 ?_
        refine V_aload_n C dL_takes_203 rfl ?_
        refine V_bipush C dL_takes_204 (by decide +kernel) ?_
        refine V_iload C dL_takes_206 rfl ?_
        refine V_iadd C dL_takes_208 ?_
        refine V_iald C dL_takes_209 hpp (by first | assumption | decide) (by omega) ?_
        refine V_iload C dL_takes_210 rfl ?_
        refine V_icmp_ne C 220 dL_takes_212 (by decide) (by omega) (by omega) (fun c8 => ?_) (fun c8 => ?_)
        · refine V_aload_n C dL_takes_220 rfl ?_
          refine V_bipush C dL_takes_221 (by decide +kernel) ?_
          refine V_iload C dL_takes_223 rfl ?_
          refine V_iadd C dL_takes_225 ?_
          refine V_iald C dL_takes_226 hpp (by first | assumption | decide) (by omega) ?_
          refine V_iast C dL_takes_227 hpp (by first | assumption | decide) (by omega) ?_
          rw [if_neg (by omega)] at h
          refine V_return C E dL_takes_228 (by omega) (by omega) ?_
          rw [h, f20]
          exact Dt_rfl
        · refine V_iload C dL_takes_215 rfl ?_
          refine V_goto C 227 dL_takes_217 (by decide) ?_
          refine V_iast C dL_takes_227 hpp (by first | assumption | decide) (by omega) ?_
          rw [if_pos (by omega)] at h
          refine V_return C E dL_takes_228 (by omega) (by omega) ?_
          rw [h, ← hz]
          exact Dt_rfl
    -- the second loop: nothing to find
    have stop : ∀ y : Int, (-2147483648 ≤ y ∧ y ≤ 2147483647) → (0 ≤ nx ∨ ty ≤ 0) → V X 131 [some (.ref w), some (.ref (w + 1)), some (.ref (w + 2)), some (.ref (w + 3)), some (.int (I32 p)), some (.int (I32 gr)), some (.int (I32 pl)), some (.int (I32 nx)), some (.int (I32 ty)), some (.int (I32 y)), none, none] [] S n m la 0 0 := by
      intro y yb hx
      have go := fin nx y (fun z => by rw [eKn, if_pos (by omega)]) (by omega)
      refine V_iload C dL_takes_131 rfl ?_
      refine V_aload_n C dL_takes_133 rfl ?_
      refine V_iconst C dL_takes_134 ?_
      refine V_iald C dL_takes_135 hg (by first | assumption | decide) (by omega) ?_
      refine V_icmp_ge C 192 dL_takes_136 (by decide) (by omega) (by omega) (fun c1 => ?_) (fun c1 => ?_)
      · exact go
      · refine V_iload C dL_takes_139 rfl ?_
        refine V_if_le C 192 dL_takes_141 (by decide) (by omega) (fun c2 => ?_) (fun c2 => ?_)
        · exact go
        · refine V_iload C dL_takes_144 rfl ?_
          refine V_if_ge C 192 dL_takes_146 (by decide) (by omega) (fun c3 => ?_) (fun c3 => ?_)
          · exact go
          · exact absurd c3 (by omega)
    by_cases hx : 0 ≤ nx ∨ ty ≤ 0
    · exact stop 0 (by omega) hx
    have nx1 : nx = -1 := by omega
    have kn1 : kn = jMG (m (w + 2)) gr (ty - 1) (mu w 2) (mu w 2).toNat := by rw [eKn, if_neg (by omega)]
    have find : ∀ (k : Nat) (y : Int), 0 ≤ y → y + k = mu w 2 → kn = jMG (m (w + 2)) gr (ty - 1) (mu w 2) k → V X 131 [some (.ref w), some (.ref (w + 1)), some (.ref (w + 2)), some (.ref (w + 3)), some (.int (I32 p)), some (.int (I32 gr)), some (.int (I32 pl)), some (.int (I32 nx)), some (.int (I32 ty)), some (.int (I32 y)), none, none] [] S n m la 0 0 := by
      intro k
      induction k with
      | zero =>
        intro y y1 y2 hk
        have go := fin nx y (fun z => by rw [hk, nx1]; rfl) (by omega)
        refine V_iload C dL_takes_131 rfl ?_
        refine V_aload_n C dL_takes_133 rfl ?_
        refine V_iconst C dL_takes_134 ?_
        refine V_iald C dL_takes_135 hg (by first | assumption | decide) (by omega) ?_
        refine V_icmp_ge C 192 dL_takes_136 (by decide) (by omega) (by omega) (fun c1 => ?_) (fun c1 => ?_)
        · exact go
        · exact absurd c1 (by omega)
      | succ k ih =>
        intro y y1 y2 hk
        have ih := ih (y + 1) (by omega) (by omega)
        have ey : mu w 2 - ((k : Int) + 1) = y := by omega
        have bb2 := hmR (w + 2) (4 * y + 2)
        have bb3 := hmR (w + 2) (4 * y + 3)
        rw [jMG, ey] at hk
        refine V_iload C dL_takes_131 rfl ?_
        refine V_aload_n C dL_takes_133 rfl ?_
        refine V_iconst C dL_takes_134 ?_
        refine V_iald C dL_takes_135 hg (by first | assumption | decide) (by omega) ?_
        refine V_icmp_ge C 192 dL_takes_136 (by decide) (by omega) (by omega) (fun c1 => ?_) (fun c1 => ?_)
        · exact absurd c1 (by omega)
        · refine V_iload C dL_takes_139 rfl ?_
          refine V_if_le C 192 dL_takes_141 (by decide) (by omega) (fun c2 => ?_) (fun c2 => ?_)
          · exact absurd c2 (by omega)
          · refine V_iload C dL_takes_144 rfl ?_
            refine V_if_ge C 192 dL_takes_146 (by decide) (by omega) (fun c3 => ?_) (fun c3 => ?_)
            · exact absurd c3 (by omega)
            · refine V_aload_n C dL_takes_149 rfl ?_
              refine V_iconst C dL_takes_150 ?_
              refine V_iload C dL_takes_151 rfl ?_
              refine V_imul C dL_takes_153 ?_
              refine V_iconst C dL_takes_154 ?_
              refine V_iadd C dL_takes_155 ?_
              refine V_iald C dL_takes_156 hpp (by first | assumption | decide) (by omega) ?_
              refine V_iload C dL_takes_157 rfl ?_
              refine V_icmp_ne C 182 dL_takes_159 (by decide) (by omega) (by omega) (fun c4 => ?_) (fun c4 => ?_)
              · rw [if_neg (fun q => c4 q.1)] at hk
                refine V_iload C dL_takes_182 rfl ?_
                refine V_istore C dL_takes_184 rfl (by decide) ?_
                refine V_iinc C dL_takes_186 rfl rfl (by decide) ?_
                refine V_goto C 131 dL_takes_189 (by decide) ?_
                exact ih hk
              · refine V_aload_n C dL_takes_162 rfl ?_
                refine V_iconst C dL_takes_163 ?_
                refine V_iload C dL_takes_164 rfl ?_
                refine V_imul C dL_takes_166 ?_
                refine V_iconst C dL_takes_167 ?_
                refine V_iadd C dL_takes_168 ?_
                refine V_iald C dL_takes_169 hpp (by first | assumption | decide) (by omega) ?_
                refine V_iload C dL_takes_170 rfl ?_
                refine V_iconst C dL_takes_172 ?_
                refine V_isub C dL_takes_173 ?_
                refine V_icmp_ne C 182 dL_takes_174 (by decide) (by omega) (by omega) (fun c5 => ?_) (fun c5 => ?_)
                · rw [if_neg (fun q => c5 q.2)] at hk
                  refine V_iload C dL_takes_182 rfl ?_
                  refine V_istore C dL_takes_184 rfl (by decide) ?_
                  refine V_iinc C dL_takes_186 rfl rfl (by decide) ?_
                  refine V_goto C 131 dL_takes_189 (by decide) ?_
                  exact ih hk
                · rw [if_pos ⟨c4, c5⟩] at hk
                  -- found
                  have go := fin y (y + 1) (fun _ => hk.symm) (by omega)
                  refine V_iload C dL_takes_177 rfl ?_
                  refine V_goto C 184 dL_takes_179 (by decide) ?_
                  refine V_istore C dL_takes_184 rfl (by decide) ?_
                  refine V_iinc C dL_takes_186 rfl rfl (by decide) ?_
                  refine V_goto C 131 dL_takes_189 (by decide) ?_
                  refine V_iload C dL_takes_131 rfl ?_
                  refine V_aload_n C dL_takes_133 rfl ?_
                  refine V_iconst C dL_takes_134 ?_
                  refine V_iald C dL_takes_135 hg (by first | assumption | decide) (by omega) ?_
                  refine V_icmp_ge C 192 dL_takes_136 (by decide) (by omega) (by omega) (fun c6 => ?_) (fun c6 => ?_)
                  · exact go
                  · refine V_iload C dL_takes_139 rfl ?_
                    refine V_if_le C 192 dL_takes_141 (by decide) (by omega) (fun c7 => ?_) (fun c7 => ?_)
                    · exact go
                    · refine V_iload C dL_takes_144 rfl ?_
                      refine V_if_ge C 192 dL_takes_146 (by decide) (by omega) (fun c8 => ?_) (fun c8 => ?_)
                      · exact go
                      · exact absurd c8 (by omega)
    exact find (mu w 2).toNat 0 (by omega) (by omega) kn1
  have loop : ∀ (k : Nat) (j : Int), 0 ≤ j → j + k = mu w 2 → V X 41 [some (.ref w), some (.ref (w + 1)), some (.ref (w + 2)), some (.ref (w + 3)), some (.int (I32 p)), some (.int (I32 gr)), some (.int (I32 pl)), some (.int (I32 (jNG (m1 (w + 2)) gr pl j.toNat))), some (.int (I32 j)), none, none, none] [] S n (jK1 m1 w gr pl j) la 0 0 := by
    intro k
    induction k with
    | zero =>
      intro j j1 j2
      have ej : j = mu w 2 := by omega
      subst ej
      have f2 : jK1 m1 w gr pl (mu w 2) w 2 = mu w 2 := by rw [jK1_x _ _ _ _ _ (by omega), d2]
      refine V_iload C dL_takes_41 rfl ?_
      refine V_aload_n C dL_takes_43 rfl ?_
      refine V_iconst C dL_takes_44 ?_
      refine V_iald C dL_takes_45 hg (by first | assumption | decide) (by omega) ?_
      refine V_icmp_ge C 119 dL_takes_46 (by decide) (by omega) (by omega) (fun c1 => ?_) (fun c1 => ?_)
      · exact tail _ rfl
      · exact absurd c1 (by omega)
    | succ k ih =>
      intro j j1 j2
      have ih := ih (j + 1) (by omega) (by omega)
      have f2 : jK1 m1 w gr pl j w 2 = mu w 2 := by rw [jK1_x _ _ _ _ _ (by omega), d2]
      have g2 : jK1 m1 w gr pl j (w + 2) (4 * j + 2) = m1 (w + 2) (4 * j + 2) := jK1_x _ _ _ _ _ (by omega)
      have g3 : jK1 m1 w gr pl j (w + 2) (4 * j + 3) = m1 (w + 2) (4 * j + 3) := jK1_x _ _ _ _ _ (by omega)
      have bb2 := hm1R (w + 2) (4 * j + 2)
      have bb3 := hm1R (w + 2) (4 * j + 3)
      have nb := jNG_b (m1 (w + 2)) gr pl j.toNat
      rw [jNG_s j1] at ih
      refine V_iload C dL_takes_41 rfl ?_
      refine V_aload_n C dL_takes_43 rfl ?_
      refine V_iconst C dL_takes_44 ?_
      refine V_iald C dL_takes_45 hg (by first | assumption | decide) (by omega) ?_
      refine V_icmp_ge C 119 dL_takes_46 (by decide) (by omega) (by omega) (fun c1 => ?_) (fun c1 => ?_)
      · exact absurd c1 (by omega)
      · refine V_aload_n C dL_takes_49 rfl ?_
        refine V_iconst C dL_takes_50 ?_
        refine V_iload C dL_takes_51 rfl ?_
        refine V_imul C dL_takes_53 ?_
        refine V_iconst C dL_takes_54 ?_
        refine V_iadd C dL_takes_55 ?_
        refine V_iald C dL_takes_56 hpp (by first | assumption | decide) (by omega) ?_
        refine V_iload C dL_takes_57 rfl ?_
        refine V_icmp_ne C 113 dL_takes_59 (by decide) (by omega) (by omega) (fun c2 => ?_) (fun c2 => ?_)
        · rw [g2] at c2
          rw [if_neg (fun q => c2 q.1), ← jK1_n m1 w c2] at ih
          refine V_iinc C dL_takes_113 rfl rfl (by decide) ?_
          refine V_goto C 41 dL_takes_116 (by decide) ?_
          exact ih
        · rw [g2] at c2
          rw [← jK1_s m1 w j1 c2] at ih
          refine V_aload_n C dL_takes_62 rfl ?_
          refine V_iconst C dL_takes_63 ?_
          refine V_iload C dL_takes_64 rfl ?_
          refine V_imul C dL_takes_66 ?_
          refine V_iconst C dL_takes_67 ?_
          refine V_iadd C dL_takes_68 ?_
          refine V_dup2 C dL_takes_69 rfl rfl ?_
          refine V_iald C dL_takes_70 hpp (by first | assumption | decide) (by omega) ?_
          refine V_aload_n C dL_takes_71 rfl ?_
          refine V_iconst C dL_takes_72 ?_
          refine V_iload C dL_takes_73 rfl ?_
          refine V_imul C dL_takes_75 ?_
          refine V_iconst C dL_takes_76 ?_
          refine V_iadd C dL_takes_77 ?_
          refine V_iald C dL_takes_78 hpp (by first | assumption | decide) (by omega) ?_
          refine V_iload C dL_takes_79 rfl ?_
          rw [g3]
          have last : ∀ v : Int, v = (if pl < m1 (w + 2) (4 * j + 3) then m1 (w + 2) (4 * j + 3) - 1 else m1 (w + 2) (4 * j + 3)) → V X 91 [some (.ref w), some (.ref (w + 1)), some (.ref (w + 2)), some (.ref (w + 3)), some (.int (I32 p)), some (.int (I32 gr)), some (.int (I32 pl)), some (.int (I32 (jNG (m1 (w + 2)) gr pl j.toNat))), some (.int (I32 j)), none, none, none] [] S n (up (jK1 m1 w gr pl j) (w + 2) (4 * j + 3) v) la 0 0 := by
            intro v hv
            have bv : -2147483648 ≤ v ∧ v ≤ 2147483647 := by rw [hv]; split <;> omega
            rw [← hv] at ih
            refine V_aload_n C dL_takes_91 rfl ?_
            refine V_iconst C dL_takes_92 ?_
            refine V_iload C dL_takes_93 rfl ?_
            refine V_imul C dL_takes_95 ?_
            refine V_iconst C dL_takes_96 ?_
            refine V_iadd C dL_takes_97 ?_
            refine V_iald C dL_takes_98 hpp (by first | assumption | decide) (by omega) ?_
            rw [up_s]
            refine V_iload C dL_takes_99 rfl ?_
            refine V_icmp_ne C 109 dL_takes_101 (by decide) (by omega) (by omega) (fun c3 => ?_) (fun c3 => ?_)
            · rw [if_neg (fun q => c3 q.2)] at ih
              refine V_iload C dL_takes_109 rfl ?_
              refine V_istore C dL_takes_111 rfl (by decide) ?_
              refine V_iinc C dL_takes_113 rfl rfl (by decide) ?_
              refine V_goto C 41 dL_takes_116 (by decide) ?_
              exact ih
            · rw [if_pos ⟨c2, c3⟩] at ih
              refine V_iload C dL_takes_104 rfl ?_
              refine V_goto C 111 dL_takes_106 (by decide) ?_
              refine V_istore C dL_takes_111 rfl (by decide) ?_
              refine V_iinc C dL_takes_113 rfl rfl (by decide) ?_
              refine V_goto C 41 dL_takes_116 (by decide) ?_
              exact ih
          refine V_icmp_le C 88 dL_takes_81 (by decide) (by omega) (by omega) (fun c3 => ?_) (fun c3 => ?_)
          · refine V_iconst C dL_takes_88 ?_
            refine V_isub C dL_takes_89 ?_
            refine V_iast C dL_takes_90 hpp (by first | assumption | decide) (by omega) ?_
            exact last _ (by rw [if_neg (by omega)]; omega)
          · refine V_iconst C dL_takes_84 ?_
            refine V_goto C 89 dL_takes_85 (by decide) ?_
            refine V_isub C dL_takes_89 ?_
            refine V_iast C dL_takes_90 hpp (by first | assumption | decide) (by omega) ?_
            exact last _ (by rw [if_pos (by omega)])
  have h9 := loop (mu w 2).toNat 0 (by omega) (by omega)
  rw [jK1_0] at h9
  refine V_aload_n C dL_takes_16 rfl ?_
  refine V_iconst C dL_takes_17 ?_
  refine V_iload C dL_takes_18 rfl ?_
  refine V_imul C dL_takes_20 ?_
  refine V_iconst C dL_takes_21 ?_
  refine V_iadd C dL_takes_22 ?_
  refine V_iald C dL_takes_23 hpp (by first | assumption | decide) (by omega) ?_
  rw [epl]
  refine V_istore C dL_takes_24 rfl (by decide) ?_
  refine V_aload_n C dL_takes_26 rfl ?_
  refine V_iconst C dL_takes_27 ?_
  refine V_iload C dL_takes_28 rfl ?_
  refine V_imul C dL_takes_30 ?_
  refine V_iconst C dL_takes_31 ?_
  refine V_iadd C dL_takes_32 ?_
  refine V_iconst C dL_takes_33 ?_
  refine V_iast C dL_takes_34 hpp (by first | assumption | decide) (by omega) ?_
  rw [e1]
  refine V_iconst C dL_takes_35 ?_
  refine V_istore C dL_takes_36 rfl (by decide) ?_
  refine V_iconst C dL_takes_38 ?_
  refine V_istore C dL_takes_39 rfl (by decide) ?_
  exact h9
end LR3
