/-! THE LAW OF p32: a sign put in, a sign cut out, signs and tabs counted. The law's rows lie at w (g), w + 1 (q), w + 2 (p), w + 3 (f) -/
def LwS (S : Sh) (w : Nat) : Prop := hasS S w (.inl (0, 5)) ∧ hasS S (w + 1) (.inl (0, 48)) ∧ hasS S (w + 2) (.inl (0, 25)) ∧ hasS S (w + 3) (.inl (0, 25))
def jP1 (mu : Mem) (w : Nat) (j : Int) : Mem := fun a i => if a = w + 1 ∧ j + 3 < i ∧ i < 3 * mu w 3 + 3 then mu a (i - 3) else mu a i
/-- a sign put in at t -/
def jP (mu : Mem) (w : Nat) (t k we gr : Int) : Mem := fun a i => if a = w + 1 then (if i < 3 * t then mu a i else if i = 3 * t then k else if i = 3 * t + 1 then we else if i = 3 * t + 2 then gr else if i < 3 * mu w 3 + 3 then mu a (i - 3) else mu a i) else if a = w ∧ i = 3 then mu w 3 + 1 else mu a i
def jC1 (mu : Mem) (w : Nat) (t j : Int) : Mem := fun a i => if a = w + 1 ∧ 3 * t ≤ i ∧ i < j then mu a (i + 3) else if a = w ∧ i = 3 then mu w 3 - 1 else mu a i
/-- the sign at t cut out -/
def jC (mu : Mem) (w : Nat) (t : Int) : Mem := jC1 mu w t (3 * (mu w 3 - 1))
def jSG (Q : Int → Int) (gr : Int) : Nat → Int
  | 0 => -1
  | n + 1 => if Q (3 * n) = 1 ∧ Q (3 * n + 2) = gr then n else jSG Q gr n
/-- the sign of a group -/
def jS (mu : Mem) (w : Nat) (gr : Int) : Int := jSG (mu (w + 1)) gr (mu w 3).toNat
def jTG (Q : Int → Int) (gr : Int) : Nat → Int
  | 0 => 0
  | n + 1 => jTG Q gr n + (if 0 ≤ gr ∧ Q (4 * n + 2) = gr then 1 else 0)
/-- how many panes a group has -/
def jT (mu : Mem) (w : Nat) (gr : Int) : Int := jTG (mu (w + 2)) gr (mu w 2).toNat
def jX (mu : Mem) (w : Nat) (p : Int) : Int := if mu (w + 2) (4 * p + 2) < 0 then 0 else if jS mu w (mu (w + 2) (4 * p + 2)) < 0 then 2 else 1
def jGG (Q : Int → Int) : Nat → Int
  | 0 => 0
  | n + 1 => jGG Q n + (if Q (3 * n) = 1 then 1 else 0)
/-- how many groups there are -/
def jG (mu : Mem) (w : Nat) : Int := jGG (mu (w + 1)) (mu w 3).toNat
/-- a group of its own for a pane -/
def jF (mu : Mem) (w : Nat) (p g : Int) : Mem := up (up (up mu (w + 2) (4 * p + 2) g) (w + 2) (4 * p + 3) 0) (w + 2) (20 + g) p
theorem nat_of {i : Int} (h : 0 ≤ i) : ∃ n : Nat, i = n := ⟨i.toNat, by omega⟩
theorem jSG_s {Q : Int → Int} {gr i : Int} (h : 0 ≤ i) : jSG Q gr (i + 1).toNat = if Q (3 * i) = 1 ∧ Q (3 * i + 2) = gr then i else jSG Q gr i.toNat := by
  obtain ⟨n, rfl⟩ := nat_of h
  rw [show ((n : Int) + 1).toNat = n + 1 by omega, show (n : Int).toNat = n by omega]
  rfl
theorem jTG_s {Q : Int → Int} {gr i : Int} (h : 0 ≤ i) : jTG Q gr (i + 1).toNat = jTG Q gr i.toNat + (if 0 ≤ gr ∧ Q (4 * i + 2) = gr then 1 else 0) := by
  obtain ⟨n, rfl⟩ := nat_of h
  rw [show ((n : Int) + 1).toNat = n + 1 by omega, show (n : Int).toNat = n by omega]
  rfl
theorem jGG_s {Q : Int → Int} {i : Int} (h : 0 ≤ i) : jGG Q (i + 1).toNat = jGG Q i.toNat + (if Q (3 * i) = 1 then 1 else 0) := by
  obtain ⟨n, rfl⟩ := nat_of h
  rw [show ((n : Int) + 1).toNat = n + 1 by omega, show (n : Int).toNat = n by omega]
  rfl
theorem jSG_b (Q : Int → Int) (gr : Int) : ∀ n : Nat, -1 ≤ jSG Q gr n ∧ jSG Q gr n < n
  | 0 => by simp [jSG]
  | n + 1 => by
    have := jSG_b Q gr n
    unfold jSG
    split <;> omega
theorem jTG_b (Q : Int → Int) (gr : Int) : ∀ n : Nat, 0 ≤ jTG Q gr n ∧ jTG Q gr n ≤ n
  | 0 => by simp [jTG]
  | n + 1 => by
    have := jTG_b Q gr n
    unfold jTG
    split <;> omega
theorem jGG_b (Q : Int → Int) : ∀ n : Nat, 0 ≤ jGG Q n ∧ jGG Q n ≤ n
  | 0 => by simp [jGG]
  | n + 1 => by
    have := jGG_b Q n
    unfold jGG
    split <;> omega
theorem jS_b {mu : Mem} {w : Nat} {gr : Int} (h : 0 ≤ mu w 3 ∧ mu w 3 ≤ 16) : -1 ≤ jS mu w gr ∧ jS mu w gr < mu w 3 ∨ jS mu w gr = -1 := by
  have := jSG_b (mu (w + 1)) gr (mu w 3).toNat
  unfold jS
  omega
theorem jT_b {mu : Mem} {w : Nat} {gr : Int} (h : 0 ≤ mu w 2 ∧ mu w 2 ≤ 5) : 0 ≤ jT mu w gr ∧ jT mu w gr ≤ 5 := by
  have := jTG_b (mu (w + 2)) gr (mu w 2).toNat
  unfold jT
  omega
theorem jP1_0 (mu : Mem) (w : Nat) : jP1 mu w (3 * mu w 3 - 1) = mu := by
  funext a i
  unfold jP1
  rw [if_neg (by omega)]
theorem jP1_s (mu : Mem) (w : Nat) {j : Int} (h : j < 3 * mu w 3) : up (jP1 mu w j) (w + 1) (j + 3) (jP1 mu w j (w + 1) j) = jP1 mu w (j + -1) := by
  funext a i
  rw [up_e]
  unfold jP1
  by_cases h1 : a = w + 1
  · subst h1
    by_cases h2 : i = j + 3
    · subst h2
      rw [if_pos ⟨rfl, rfl⟩, if_neg (by omega), if_pos ⟨rfl, by omega, by omega⟩, show j + 3 - 3 = j by omega]
    · rw [if_neg (by omega)]
      by_cases h3 : j + 3 < i ∧ i < 3 * mu w 3 + 3
      · rw [if_pos ⟨rfl, h3⟩, if_pos ⟨rfl, by omega, by omega⟩]
      · rw [if_neg (by omega), if_neg (by omega)]
  · rw [if_neg (fun q => h1 q.1), if_neg (fun q => h1 q.1), if_neg (fun q => h1 q.1)]
theorem jP_e (mu : Mem) (w : Nat) {t k we gr : Int} (ht : t ≤ mu w 3) : up (up (up (up (jP1 mu w (3 * t - 1)) (w + 1) (3 * t) k) (w + 1) (3 * t + 1) we) (w + 1) (3 * t + 2) gr) w 3 ((up (up (up (jP1 mu w (3 * t - 1)) (w + 1) (3 * t) k) (w + 1) (3 * t + 1) we) (w + 1) (3 * t + 2) gr) w 3 + 1) = jP mu w t k we gr := by
  have e3 : (up (up (up (jP1 mu w (3 * t - 1)) (w + 1) (3 * t) k) (w + 1) (3 * t + 1) we) (w + 1) (3 * t + 2) gr) w 3 = mu w 3 := by
    rw [up_e, if_neg (by omega), up_e, if_neg (by omega), up_e, if_neg (by omega)]
    unfold jP1
    rw [if_neg (by omega)]
  rw [e3]
  funext a i
  unfold jP
  by_cases h1 : a = w + 1
  · subst h1
    rw [if_pos rfl, up_e, if_neg (by omega)]
    by_cases h2 : i = 3 * t + 2
    · subst h2
      rw [up_e, if_pos ⟨rfl, rfl⟩, if_neg (by omega), if_neg (by omega), if_neg (by omega), if_pos rfl]
    · rw [up_e, if_neg (by omega)]
      by_cases h3 : i = 3 * t + 1
      · subst h3
        rw [up_e, if_pos ⟨rfl, rfl⟩, if_neg (by omega), if_neg (by omega), if_pos rfl]
      · rw [up_e, if_neg (by omega)]
        by_cases h4 : i = 3 * t
        · subst h4
          rw [up_e, if_pos ⟨rfl, rfl⟩, if_neg (by omega), if_pos rfl]
        · rw [up_e, if_neg (by omega)]
          unfold jP1
          by_cases h5 : i < 3 * t
          · rw [if_neg (by omega), if_pos h5]
          · rw [if_neg h5, if_neg h4, if_neg h3, if_neg h2]
            by_cases h6 : i < 3 * mu w 3 + 3
            · rw [if_pos ⟨rfl, by omega, h6⟩, if_pos h6]
            · rw [if_neg (by omega), if_neg h6]
  · rw [if_neg h1]
    by_cases h2 : a = w ∧ i = 3
    · rw [if_pos h2, up_e, if_pos h2]
    · rw [if_neg h2, up_e, if_neg h2, up_e, if_neg (fun q => h1 q.1), up_e, if_neg (fun q => h1 q.1), up_e, if_neg (fun q => h1 q.1)]
      unfold jP1
      rw [if_neg (fun q => h1 q.1)]
theorem jC1_0 (mu : Mem) (w : Nat) (t : Int) : up mu w 3 (mu w 3 - 1) = jC1 mu w t (3 * t) := by
  funext a i
  unfold jC1
  rw [up_e, if_neg (show ¬ (a = w + 1 ∧ 3 * t ≤ i ∧ i < 3 * t) by omega)]
theorem jC1_3 (mu : Mem) (w : Nat) (t j : Int) : jC1 mu w t j w 3 = mu w 3 - 1 := by
  unfold jC1
  rw [if_neg (by omega), if_pos ⟨rfl, rfl⟩]
theorem jC1_s (mu : Mem) (w : Nat) {t j : Int} (h : 3 * t ≤ j) : up (jC1 mu w t j) (w + 1) j (jC1 mu w t j (w + 1) (j + 3)) = jC1 mu w t (j + 1) := by
  funext a i
  rw [up_e]
  unfold jC1
  by_cases h1 : a = w + 1
  · subst h1
    by_cases h2 : i = j
    · subst h2
      rw [if_pos ⟨rfl, rfl⟩, if_neg (by omega), if_neg (by omega), if_pos ⟨rfl, by omega, by omega⟩]
    · rw [if_neg (by omega)]
      by_cases h3 : 3 * t ≤ i ∧ i < j
      · rw [if_pos ⟨rfl, h3⟩, if_pos ⟨rfl, by omega, by omega⟩]
      · rw [if_neg (by omega), if_neg (by omega), if_neg (by omega)]
  · simp only [h1, false_and, if_false]
section LR2
variable {G : Gx} {l : Launch} {S : Sh} {n : Nat} {mu : Mem} {la : Lam} {w : Nat}
theorem dL_put_0 : decode cL_put 0 = .ok (.iconst 3, 1) := by decide +kernel
theorem dL_put_1 : decode cL_put 1 = .ok (.aload_n 0, 1) := by decide +kernel
theorem dL_put_2 : decode cL_put 2 = .ok (.iconst 3, 1) := by decide +kernel
theorem dL_put_3 : decode cL_put 3 = .ok (.iaload, 1) := by decide +kernel
theorem dL_put_4 : decode cL_put 4 = .ok (.imul, 1) := by decide +kernel
theorem dL_put_5 : decode cL_put 5 = .ok (.iconst 1, 1) := by decide +kernel
theorem dL_put_6 : decode cL_put 6 = .ok (.isub, 1) := by decide +kernel
theorem dL_put_7 : decode cL_put 7 = .ok (.istore 6, 2) := by decide +kernel
theorem dL_put_9 : decode cL_put 9 = .ok (.iload 6, 2) := by decide +kernel
theorem dL_put_11 : decode cL_put 11 = .ok (.iconst 3, 1) := by decide +kernel
theorem dL_put_12 : decode cL_put 12 = .ok (.iload_n 2, 1) := by decide +kernel
theorem dL_put_13 : decode cL_put 13 = .ok (.imul, 1) := by decide +kernel
theorem dL_put_14 : decode cL_put 14 = .ok (.if_icmp .lt 19, 3) := by decide +kernel
theorem dL_put_17 : decode cL_put 17 = .ok (.aload_n 1, 1) := by decide +kernel
theorem dL_put_18 : decode cL_put 18 = .ok (.iload 6, 2) := by decide +kernel
theorem dL_put_20 : decode cL_put 20 = .ok (.iconst 3, 1) := by decide +kernel
theorem dL_put_21 : decode cL_put 21 = .ok (.iadd, 1) := by decide +kernel
theorem dL_put_22 : decode cL_put 22 = .ok (.aload_n 1, 1) := by decide +kernel
theorem dL_put_23 : decode cL_put 23 = .ok (.iload 6, 2) := by decide +kernel
theorem dL_put_25 : decode cL_put 25 = .ok (.iaload, 1) := by decide +kernel
theorem dL_put_26 : decode cL_put 26 = .ok (.iastore, 1) := by decide +kernel
theorem dL_put_27 : decode cL_put 27 = .ok (.iinc 6 (-1), 3) := by decide +kernel
theorem dL_put_30 : decode cL_put 30 = .ok (.goto (-21), 3) := by decide +kernel
theorem dL_put_33 : decode cL_put 33 = .ok (.aload_n 1, 1) := by decide +kernel
theorem dL_put_34 : decode cL_put 34 = .ok (.iconst 3, 1) := by decide +kernel
theorem dL_put_35 : decode cL_put 35 = .ok (.iload_n 2, 1) := by decide +kernel
theorem dL_put_36 : decode cL_put 36 = .ok (.imul, 1) := by decide +kernel
theorem dL_put_37 : decode cL_put 37 = .ok (.iload_n 3, 1) := by decide +kernel
theorem dL_put_38 : decode cL_put 38 = .ok (.iastore, 1) := by decide +kernel
theorem dL_put_39 : decode cL_put 39 = .ok (.aload_n 1, 1) := by decide +kernel
theorem dL_put_40 : decode cL_put 40 = .ok (.iconst 3, 1) := by decide +kernel
theorem dL_put_41 : decode cL_put 41 = .ok (.iload_n 2, 1) := by decide +kernel
theorem dL_put_42 : decode cL_put 42 = .ok (.imul, 1) := by decide +kernel
theorem dL_put_43 : decode cL_put 43 = .ok (.iconst 1, 1) := by decide +kernel
theorem dL_put_44 : decode cL_put 44 = .ok (.iadd, 1) := by decide +kernel
theorem dL_put_45 : decode cL_put 45 = .ok (.iload 4, 2) := by decide +kernel
theorem dL_put_47 : decode cL_put 47 = .ok (.iastore, 1) := by decide +kernel
theorem dL_put_48 : decode cL_put 48 = .ok (.aload_n 1, 1) := by decide +kernel
theorem dL_put_49 : decode cL_put 49 = .ok (.iconst 3, 1) := by decide +kernel
theorem dL_put_50 : decode cL_put 50 = .ok (.iload_n 2, 1) := by decide +kernel
theorem dL_put_51 : decode cL_put 51 = .ok (.imul, 1) := by decide +kernel
theorem dL_put_52 : decode cL_put 52 = .ok (.iconst 2, 1) := by decide +kernel
theorem dL_put_53 : decode cL_put 53 = .ok (.iadd, 1) := by decide +kernel
theorem dL_put_54 : decode cL_put 54 = .ok (.iload 5, 2) := by decide +kernel
theorem dL_put_56 : decode cL_put 56 = .ok (.iastore, 1) := by decide +kernel
theorem dL_put_57 : decode cL_put 57 = .ok (.aload_n 0, 1) := by decide +kernel
theorem dL_put_58 : decode cL_put 58 = .ok (.iconst 3, 1) := by decide +kernel
theorem dL_put_59 : decode cL_put 59 = .ok (.dup2, 1) := by decide +kernel
theorem dL_put_60 : decode cL_put 60 = .ok (.iaload, 1) := by decide +kernel
theorem dL_put_61 : decode cL_put 61 = .ok (.iconst 1, 1) := by decide +kernel
theorem dL_put_62 : decode cL_put 62 = .ok (.iadd, 1) := by decide +kernel
theorem dL_put_63 : decode cL_put 63 = .ok (.iastore, 1) := by decide +kernel
theorem dL_put_64 : decode cL_put 64 = .ok (.return_, 1) := by decide +kernel
theorem l_put (hG : GP G) (hL : LwS S w) (hR : R32 mu) {t k we gr : Int} (ht : 0 ≤ t ∧ t ≤ mu w 3) (hm : mu w 3 ≤ 15) :
    Ct G l yL_put wsL_put 0 0 0 [.ref w, .ref (w + 1), .int (I32 t), .int (I32 k), .int (I32 we), .int (I32 gr)] S n mu la (Dt none S n (jP mu w t k we gr) la) := by
  obtain ⟨hg, hQ, -, -⟩ := hL
  refine Ct.ofV (cc := cL_put) (nL := 7) (ret := none) [some (.ref w), some (.ref (w + 1)), some (.int (I32 t)), some (.int (I32 k)), some (.int (I32 we)), some (.int (I32 gr)), none] hG (by decide) rfl (Nat.le_of_ble_eq_true rfl) rfl ?_
  rintro X rfl rfl C hcl hsl E
  have loop : ∀ (m : Nat) (j : Int), j < 3 * mu w 3 → 3 * t - 1 + m = j → V X 9 [some (.ref w), some (.ref (w + 1)), some (.int (I32 t)), some (.int (I32 k)), some (.int (I32 we)), some (.int (I32 gr)), some (.int (I32 j))] [] S n (jP1 mu w j) la 0 0 := by
    intro m
    induction m with
    | zero =>
      intro j h1 h2
      have e1 : j = 3 * t - 1 := by omega
      subst e1
      refine V_iload C dL_put_9 rfl ?_
      refine V_iconst C dL_put_11 ?_
      refine V_iload_n C dL_put_12 rfl ?_
      refine V_imul C dL_put_13 ?_
      refine V_icmp_lt C 33 dL_put_14 (by decide) (by omega) (by omega) (fun c => ?_) (fun c => ?_)
      · refine V_aload_n C dL_put_33 rfl ?_
        refine V_iconst C dL_put_34 ?_
        refine V_iload_n C dL_put_35 rfl ?_
        refine V_imul C dL_put_36 ?_
        refine V_iload_n C dL_put_37 rfl ?_
        refine V_iast C dL_put_38 hQ (by first | assumption | decide) (by omega) ?_
        refine V_aload_n C dL_put_39 rfl ?_
        refine V_iconst C dL_put_40 ?_
        refine V_iload_n C dL_put_41 rfl ?_
        refine V_imul C dL_put_42 ?_
        refine V_iconst C dL_put_43 ?_
        refine V_iadd C dL_put_44 ?_
        refine V_iload C dL_put_45 rfl ?_
        refine V_iast C dL_put_47 hQ (by first | assumption | decide) (by omega) ?_
        refine V_aload_n C dL_put_48 rfl ?_
        refine V_iconst C dL_put_49 ?_
        refine V_iload_n C dL_put_50 rfl ?_
        refine V_imul C dL_put_51 ?_
        refine V_iconst C dL_put_52 ?_
        refine V_iadd C dL_put_53 ?_
        refine V_iload C dL_put_54 rfl ?_
        refine V_iast C dL_put_56 hQ (by first | assumption | decide) (by omega) ?_
        refine V_aload_n C dL_put_57 rfl ?_
        refine V_iconst C dL_put_58 ?_
        refine V_dup2 C dL_put_59 rfl rfl ?_
        refine V_iald C dL_put_60 hg (by first | assumption | decide) (by omega) ?_
        refine V_iconst C dL_put_61 ?_
        refine V_iadd C dL_put_62 ?_
        refine V_iast C dL_put_63 hg (by first | assumption | decide) (by omega) ?_
        rw [jP_e mu w ht.2]
        refine V_return C E dL_put_64 (by omega) (by omega) ?_
        exact Dt_rfl
      · exact absurd c (by omega)
    | succ m ih =>
      intro j h1 h2
      have ih := ih (j + -1) (by omega) (by omega)
      refine V_iload C dL_put_9 rfl ?_
      refine V_iconst C dL_put_11 ?_
      refine V_iload_n C dL_put_12 rfl ?_
      refine V_imul C dL_put_13 ?_
      refine V_icmp_lt C 33 dL_put_14 (by decide) (by omega) (by omega) (fun c => ?_) (fun c => ?_)
      · exact absurd c (by omega)
      · refine V_aload_n C dL_put_17 rfl ?_
        refine V_iload C dL_put_18 rfl ?_
        refine V_iconst C dL_put_20 ?_
        refine V_iadd C dL_put_21 ?_
        refine V_aload_n C dL_put_22 rfl ?_
        refine V_iload C dL_put_23 rfl ?_
        refine V_iald C dL_put_25 hQ (by first | assumption | decide) (by omega) ?_
        refine V_iast C dL_put_26 hQ (by first | assumption | decide) (by omega) ?_
        rw [jP1_s mu w h1]
        refine V_iinc C dL_put_27 rfl rfl (by decide) ?_
        refine V_goto C 9 dL_put_30 (by decide) ?_
        exact ih
  have h9 := loop (3 * mu w 3 - 1 - (3 * t - 1)).toNat (3 * mu w 3 - 1) (by omega) (by omega)
  rw [jP1_0] at h9
  refine V_iconst C dL_put_0 ?_
  refine V_aload_n C dL_put_1 rfl ?_
  refine V_iconst C dL_put_2 ?_
  refine V_iald C dL_put_3 hg (by first | assumption | decide) (by omega) ?_
  refine V_imul C dL_put_4 ?_
  refine V_iconst C dL_put_5 ?_
  refine V_isub C dL_put_6 ?_
  refine V_istore C dL_put_7 rfl (by decide) ?_
  exact h9
theorem dL_cut_0 : decode cL_cut 0 = .ok (.aload_n 0, 1) := by decide +kernel
theorem dL_cut_1 : decode cL_cut 1 = .ok (.iconst 3, 1) := by decide +kernel
theorem dL_cut_2 : decode cL_cut 2 = .ok (.dup2, 1) := by decide +kernel
theorem dL_cut_3 : decode cL_cut 3 = .ok (.iaload, 1) := by decide +kernel
theorem dL_cut_4 : decode cL_cut 4 = .ok (.iconst 1, 1) := by decide +kernel
theorem dL_cut_5 : decode cL_cut 5 = .ok (.isub, 1) := by decide +kernel
theorem dL_cut_6 : decode cL_cut 6 = .ok (.iastore, 1) := by decide +kernel
theorem dL_cut_7 : decode cL_cut 7 = .ok (.iconst 3, 1) := by decide +kernel
theorem dL_cut_8 : decode cL_cut 8 = .ok (.iload_n 2, 1) := by decide +kernel
theorem dL_cut_9 : decode cL_cut 9 = .ok (.imul, 1) := by decide +kernel
theorem dL_cut_10 : decode cL_cut 10 = .ok (.istore_n 3, 1) := by decide +kernel
theorem dL_cut_11 : decode cL_cut 11 = .ok (.iload_n 3, 1) := by decide +kernel
theorem dL_cut_12 : decode cL_cut 12 = .ok (.iconst 3, 1) := by decide +kernel
theorem dL_cut_13 : decode cL_cut 13 = .ok (.aload_n 0, 1) := by decide +kernel
theorem dL_cut_14 : decode cL_cut 14 = .ok (.iconst 3, 1) := by decide +kernel
theorem dL_cut_15 : decode cL_cut 15 = .ok (.iaload, 1) := by decide +kernel
theorem dL_cut_16 : decode cL_cut 16 = .ok (.imul, 1) := by decide +kernel
theorem dL_cut_17 : decode cL_cut 17 = .ok (.if_icmp .ge 17, 3) := by decide +kernel
theorem dL_cut_20 : decode cL_cut 20 = .ok (.aload_n 1, 1) := by decide +kernel
theorem dL_cut_21 : decode cL_cut 21 = .ok (.iload_n 3, 1) := by decide +kernel
theorem dL_cut_22 : decode cL_cut 22 = .ok (.aload_n 1, 1) := by decide +kernel
theorem dL_cut_23 : decode cL_cut 23 = .ok (.iload_n 3, 1) := by decide +kernel
theorem dL_cut_24 : decode cL_cut 24 = .ok (.iconst 3, 1) := by decide +kernel
theorem dL_cut_25 : decode cL_cut 25 = .ok (.iadd, 1) := by decide +kernel
theorem dL_cut_26 : decode cL_cut 26 = .ok (.iaload, 1) := by decide +kernel
theorem dL_cut_27 : decode cL_cut 27 = .ok (.iastore, 1) := by decide +kernel
theorem dL_cut_28 : decode cL_cut 28 = .ok (.iinc 3 1, 3) := by decide +kernel
theorem dL_cut_31 : decode cL_cut 31 = .ok (.goto (-20), 3) := by decide +kernel
theorem dL_cut_34 : decode cL_cut 34 = .ok (.return_, 1) := by decide +kernel
theorem l_cut (hG : GP G) (hL : LwS S w) (hR : R32 mu) {t : Int} (ht : 0 ≤ t ∧ t < mu w 3) (hm : mu w 3 ≤ 16) :
    Ct G l yL_cut wsL_cut 0 0 0 [.ref w, .ref (w + 1), .int (I32 t)] S n mu la (Dt none S n (jC mu w t) la) := by
  obtain ⟨hg, hQ, -, -⟩ := hL
  refine Ct.ofV (cc := cL_cut) (nL := 4) (ret := none) [some (.ref w), some (.ref (w + 1)), some (.int (I32 t)), none] hG (by decide) rfl (Nat.le_of_ble_eq_true rfl) rfl ?_
  rintro X rfl rfl C hcl hsl E
  have loop : ∀ (m : Nat) (j : Int), 3 * t ≤ j → j + m = 3 * (mu w 3 - 1) → V X 11 [some (.ref w), some (.ref (w + 1)), some (.int (I32 t)), some (.int (I32 j))] [] S n (jC1 mu w t j) la 0 0 := by
    intro m
    induction m with
    | zero =>
      intro j h1 h2
      have e1 : j = 3 * (mu w 3 - 1) := by omega
      subst e1
      have e3 := jC1_3 mu w t (3 * (mu w 3 - 1))
      refine V_iload_n C dL_cut_11 rfl ?_
      refine V_iconst C dL_cut_12 ?_
      refine V_aload_n C dL_cut_13 rfl ?_
      refine V_iconst C dL_cut_14 ?_
      refine V_iald C dL_cut_15 hg (by first | assumption | decide) (by omega) ?_
      refine V_imul C dL_cut_16 ?_
      refine V_icmp_ge C 34 dL_cut_17 (by decide) (by omega) (by omega) (fun c => ?_) (fun c => ?_)
      · refine V_return C E dL_cut_34 (by omega) (by omega) ?_
        exact Dt_rfl
      · exact absurd c (by omega)
    | succ m ih =>
      intro j h1 h2
      have ih := ih (j + 1) (by omega) (by omega)
      have e3 := jC1_3 mu w t j
      refine V_iload_n C dL_cut_11 rfl ?_
      refine V_iconst C dL_cut_12 ?_
      refine V_aload_n C dL_cut_13 rfl ?_
      refine V_iconst C dL_cut_14 ?_
      refine V_iald C dL_cut_15 hg (by first | assumption | decide) (by omega) ?_
      refine V_imul C dL_cut_16 ?_
      refine V_icmp_ge C 34 dL_cut_17 (by decide) (by omega) (by omega) (fun c => ?_) (fun c => ?_)
      · exact absurd c (by omega)
      · refine V_aload_n C dL_cut_20 rfl ?_
        refine V_iload_n C dL_cut_21 rfl ?_
        refine V_aload_n C dL_cut_22 rfl ?_
        refine V_iload_n C dL_cut_23 rfl ?_
        refine V_iconst C dL_cut_24 ?_
        refine V_iadd C dL_cut_25 ?_
        refine V_iald C dL_cut_26 hQ (by first | assumption | decide) (by omega) ?_
        refine V_iast C dL_cut_27 hQ (by first | assumption | decide) (by omega) ?_
        rw [jC1_s mu w h1]
        refine V_iinc C dL_cut_28 rfl rfl (by decide) ?_
        refine V_goto C 11 dL_cut_31 (by decide) ?_
        exact ih
  have h9 := loop (3 * (mu w 3 - 1) - 3 * t).toNat (3 * t) (by omega) (by omega)
  rw [← jC1_0] at h9
  refine V_aload_n C dL_cut_0 rfl ?_
  refine V_iconst C dL_cut_1 ?_
  refine V_dup2 C dL_cut_2 rfl rfl ?_
  refine V_iald C dL_cut_3 hg (by first | assumption | decide) (by omega) ?_
  refine V_iconst C dL_cut_4 ?_
  refine V_isub C dL_cut_5 ?_
  refine V_iast C dL_cut_6 hg (by first | assumption | decide) (by omega) ?_
  refine V_iconst C dL_cut_7 ?_
  refine V_iload_n C dL_cut_8 rfl ?_
  refine V_imul C dL_cut_9 ?_
  refine V_istore_n C dL_cut_10 rfl (by decide) ?_
  exact h9
theorem dL_signOf_0 : decode cL_signOf 0 = .ok (.iconst (-1), 1) := by decide +kernel
theorem dL_signOf_1 : decode cL_signOf 1 = .ok (.istore_n 3, 1) := by decide +kernel
theorem dL_signOf_2 : decode cL_signOf 2 = .ok (.iconst 0, 1) := by decide +kernel
theorem dL_signOf_3 : decode cL_signOf 3 = .ok (.istore 4, 2) := by decide +kernel
theorem dL_signOf_5 : decode cL_signOf 5 = .ok (.iload 4, 2) := by decide +kernel
theorem dL_signOf_7 : decode cL_signOf 7 = .ok (.aload_n 0, 1) := by decide +kernel
theorem dL_signOf_8 : decode cL_signOf 8 = .ok (.iconst 3, 1) := by decide +kernel
theorem dL_signOf_9 : decode cL_signOf 9 = .ok (.iaload, 1) := by decide +kernel
theorem dL_signOf_10 : decode cL_signOf 10 = .ok (.if_icmp .ge 38, 3) := by decide +kernel
theorem dL_signOf_13 : decode cL_signOf 13 = .ok (.aload_n 1, 1) := by decide +kernel
theorem dL_signOf_14 : decode cL_signOf 14 = .ok (.iconst 3, 1) := by decide +kernel
theorem dL_signOf_15 : decode cL_signOf 15 = .ok (.iload 4, 2) := by decide +kernel
theorem dL_signOf_17 : decode cL_signOf 17 = .ok (.imul, 1) := by decide +kernel
theorem dL_signOf_18 : decode cL_signOf 18 = .ok (.iaload, 1) := by decide +kernel
theorem dL_signOf_19 : decode cL_signOf 19 = .ok (.iconst 1, 1) := by decide +kernel
theorem dL_signOf_20 : decode cL_signOf 20 = .ok (.if_icmp .ne 20, 3) := by decide +kernel
theorem dL_signOf_23 : decode cL_signOf 23 = .ok (.aload_n 1, 1) := by decide +kernel
theorem dL_signOf_24 : decode cL_signOf 24 = .ok (.iconst 3, 1) := by decide +kernel
theorem dL_signOf_25 : decode cL_signOf 25 = .ok (.iload 4, 2) := by decide +kernel
theorem dL_signOf_27 : decode cL_signOf 27 = .ok (.imul, 1) := by decide +kernel
theorem dL_signOf_28 : decode cL_signOf 28 = .ok (.iconst 2, 1) := by decide +kernel
theorem dL_signOf_29 : decode cL_signOf 29 = .ok (.iadd, 1) := by decide +kernel
theorem dL_signOf_30 : decode cL_signOf 30 = .ok (.iaload, 1) := by decide +kernel
theorem dL_signOf_31 : decode cL_signOf 31 = .ok (.iload_n 2, 1) := by decide +kernel
theorem dL_signOf_32 : decode cL_signOf 32 = .ok (.if_icmp .ne 8, 3) := by decide +kernel
theorem dL_signOf_35 : decode cL_signOf 35 = .ok (.iload 4, 2) := by decide +kernel
theorem dL_signOf_37 : decode cL_signOf 37 = .ok (.goto 4, 3) := by decide +kernel
theorem dL_signOf_40 : decode cL_signOf 40 = .ok (.iload_n 3, 1) := by decide +kernel
theorem dL_signOf_41 : decode cL_signOf 41 = .ok (.istore_n 3, 1) := by decide +kernel
theorem dL_signOf_42 : decode cL_signOf 42 = .ok (.iinc 4 1, 3) := by decide +kernel
theorem dL_signOf_45 : decode cL_signOf 45 = .ok (.goto (-40), 3) := by decide +kernel
theorem dL_signOf_48 : decode cL_signOf 48 = .ok (.iload_n 3, 1) := by decide +kernel
theorem dL_signOf_49 : decode cL_signOf 49 = .ok (.ireturn, 1) := by decide +kernel
theorem l_signOf (hG : GP G) (hL : LwS S w) (hR : R32 mu) {gr : Int} (hm : 0 ≤ mu w 3 ∧ mu w 3 ≤ 16) (hgr : -2147483648 ≤ gr ∧ gr ≤ 2147483647) :
    Ct G l yL_signOf wsL_signOf 0 0 0 [.ref w, .ref (w + 1), .int (I32 gr)] S n mu la (Dt (some (.int (I32 (jS mu w gr)))) S n mu la) := by
  obtain ⟨hg, hQ, -, -⟩ := hL
  refine Ct.ofV (cc := cL_signOf) (nL := 5) (ret := (some .int)) [some (.ref w), some (.ref (w + 1)), some (.int (I32 gr)), none, none] hG (by decide) rfl (Nat.le_of_ble_eq_true rfl) rfl ?_
  rintro X rfl rfl C hcl hsl E
  have loop : ∀ (m : Nat) (i : Int), 0 ≤ i → i + m = mu w 3 → V X 5 [some (.ref w), some (.ref (w + 1)), some (.int (I32 gr)), some (.int (I32 (jSG (mu (w + 1)) gr i.toNat))), some (.int (I32 i))] [] S n mu la 0 0 := by
    intro m
    induction m with
    | zero =>
      intro i h1 h2
      have e1 : i = mu w 3 := by omega
      subst e1
      refine V_iload C dL_signOf_5 rfl ?_
      refine V_aload_n C dL_signOf_7 rfl ?_
      refine V_iconst C dL_signOf_8 ?_
      refine V_iald C dL_signOf_9 hg (by first | assumption | decide) (by omega) ?_
      refine V_icmp_ge C 48 dL_signOf_10 (by decide) (by omega) (by omega) (fun c => ?_) (fun c => ?_)
      · refine V_iload_n C dL_signOf_48 rfl ?_
        refine V_ireturn C E dL_signOf_49 (by omega) (by omega) ?_
        exact Dt_rfl
      · exact absurd c (by omega)
    | succ m ih =>
      intro i h1 h2
      have ih := ih (i + 1) (by omega) (by omega)
      rw [jSG_s h1] at ih
      have b1 := hR (w + 1) (3 * i)
      have b2 := hR (w + 1) (3 * i + 2)
      refine V_iload C dL_signOf_5 rfl ?_
      refine V_aload_n C dL_signOf_7 rfl ?_
      refine V_iconst C dL_signOf_8 ?_
      refine V_iald C dL_signOf_9 hg (by first | assumption | decide) (by omega) ?_
      refine V_icmp_ge C 48 dL_signOf_10 (by decide) (by omega) (by omega) (fun c => ?_) (fun c => ?_)
      · exact absurd c (by omega)
      · refine V_aload_n C dL_signOf_13 rfl ?_
        refine V_iconst C dL_signOf_14 ?_
        refine V_iload C dL_signOf_15 rfl ?_
        refine V_imul C dL_signOf_17 ?_
        refine V_iald C dL_signOf_18 hQ (by first | assumption | decide) (by omega) ?_
        refine V_iconst C dL_signOf_19 ?_
        refine V_icmp_ne C 40 dL_signOf_20 (by decide) (by omega) (by omega) (fun c1 => ?_) (fun c1 => ?_)
        · rw [if_neg (fun q => c1 q.1)] at ih
          refine V_iload_n C dL_signOf_40 rfl ?_
          refine V_istore_n C dL_signOf_41 rfl (by decide) ?_
          refine V_iinc C dL_signOf_42 rfl rfl (by decide) ?_
          refine V_goto C 5 dL_signOf_45 (by decide) ?_
          exact ih
        · refine V_aload_n C dL_signOf_23 rfl ?_
          refine V_iconst C dL_signOf_24 ?_
          refine V_iload C dL_signOf_25 rfl ?_
          refine V_imul C dL_signOf_27 ?_
          refine V_iconst C dL_signOf_28 ?_
          refine V_iadd C dL_signOf_29 ?_
          refine V_iald C dL_signOf_30 hQ (by first | assumption | decide) (by omega) ?_
          refine V_iload_n C dL_signOf_31 rfl ?_
          refine V_icmp_ne C 40 dL_signOf_32 (by decide) (by omega) (by omega) (fun c2 => ?_) (fun c2 => ?_)
          · rw [if_neg (fun q => c2 q.2)] at ih
            refine V_iload_n C dL_signOf_40 rfl ?_
            refine V_istore_n C dL_signOf_41 rfl (by decide) ?_
            refine V_iinc C dL_signOf_42 rfl rfl (by decide) ?_
            refine V_goto C 5 dL_signOf_45 (by decide) ?_
            exact ih
          · rw [if_pos ⟨c1, c2⟩] at ih
            refine V_iload C dL_signOf_35 rfl ?_
            refine V_goto C 41 dL_signOf_37 (by decide) ?_
            refine V_istore_n C dL_signOf_41 rfl (by decide) ?_
            refine V_iinc C dL_signOf_42 rfl rfl (by decide) ?_
            refine V_goto C 5 dL_signOf_45 (by decide) ?_
            exact ih
  have h9 := loop (mu w 3).toNat 0 (by omega) (by omega)
  refine V_iconst C dL_signOf_0 ?_
  refine V_istore_n C dL_signOf_1 rfl (by decide) ?_
  refine V_iconst C dL_signOf_2 ?_
  refine V_istore C dL_signOf_3 rfl (by decide) ?_
  exact h9
theorem dL_tabs_0 : decode cL_tabs 0 = .ok (.iconst 0, 1) := by decide +kernel
theorem dL_tabs_1 : decode cL_tabs 1 = .ok (.istore_n 3, 1) := by decide +kernel
theorem dL_tabs_2 : decode cL_tabs 2 = .ok (.iconst 0, 1) := by decide +kernel
theorem dL_tabs_3 : decode cL_tabs 3 = .ok (.istore 4, 2) := by decide +kernel
theorem dL_tabs_5 : decode cL_tabs 5 = .ok (.iload 4, 2) := by decide +kernel
theorem dL_tabs_7 : decode cL_tabs 7 = .ok (.aload_n 0, 1) := by decide +kernel
theorem dL_tabs_8 : decode cL_tabs 8 = .ok (.iconst 2, 1) := by decide +kernel
theorem dL_tabs_9 : decode cL_tabs 9 = .ok (.iaload, 1) := by decide +kernel
theorem dL_tabs_10 : decode cL_tabs 10 = .ok (.if_icmp .ge 33, 3) := by decide +kernel
theorem dL_tabs_13 : decode cL_tabs 13 = .ok (.iload_n 3, 1) := by decide +kernel
theorem dL_tabs_14 : decode cL_tabs 14 = .ok (.iload_n 2, 1) := by decide +kernel
theorem dL_tabs_15 : decode cL_tabs 15 = .ok (.ifCond .lt 19, 3) := by decide +kernel
theorem dL_tabs_18 : decode cL_tabs 18 = .ok (.aload_n 1, 1) := by decide +kernel
theorem dL_tabs_19 : decode cL_tabs 19 = .ok (.iconst 4, 1) := by decide +kernel
theorem dL_tabs_20 : decode cL_tabs 20 = .ok (.iload 4, 2) := by decide +kernel
theorem dL_tabs_22 : decode cL_tabs 22 = .ok (.imul, 1) := by decide +kernel
theorem dL_tabs_23 : decode cL_tabs 23 = .ok (.iconst 2, 1) := by decide +kernel
theorem dL_tabs_24 : decode cL_tabs 24 = .ok (.iadd, 1) := by decide +kernel
theorem dL_tabs_25 : decode cL_tabs 25 = .ok (.iaload, 1) := by decide +kernel
theorem dL_tabs_26 : decode cL_tabs 26 = .ok (.iload_n 2, 1) := by decide +kernel
theorem dL_tabs_27 : decode cL_tabs 27 = .ok (.if_icmp .ne 7, 3) := by decide +kernel
theorem dL_tabs_30 : decode cL_tabs 30 = .ok (.iconst 1, 1) := by decide +kernel
theorem dL_tabs_31 : decode cL_tabs 31 = .ok (.goto 4, 3) := by decide +kernel
theorem dL_tabs_34 : decode cL_tabs 34 = .ok (.iconst 0, 1) := by decide +kernel
theorem dL_tabs_35 : decode cL_tabs 35 = .ok (.iadd, 1) := by decide +kernel
theorem dL_tabs_36 : decode cL_tabs 36 = .ok (.istore_n 3, 1) := by decide +kernel
theorem dL_tabs_37 : decode cL_tabs 37 = .ok (.iinc 4 1, 3) := by decide +kernel
theorem dL_tabs_40 : decode cL_tabs 40 = .ok (.goto (-35), 3) := by decide +kernel
theorem dL_tabs_43 : decode cL_tabs 43 = .ok (.iload_n 3, 1) := by decide +kernel
theorem dL_tabs_44 : decode cL_tabs 44 = .ok (.ireturn, 1) := by decide +kernel
theorem l_tabs (hG : GP G) (hL : LwS S w) (hR : R32 mu) {gr : Int} (hm : 0 ≤ mu w 2 ∧ mu w 2 ≤ 5) (hgr : -2147483648 ≤ gr ∧ gr ≤ 2147483647) :
    Ct G l yL_tabs wsL_tabs 0 0 0 [.ref w, .ref (w + 2), .int (I32 gr)] S n mu la (Dt (some (.int (I32 (jT mu w gr)))) S n mu la) := by
  obtain ⟨hg, -, hQ, -⟩ := hL
  refine Ct.ofV (cc := cL_tabs) (nL := 5) (ret := (some .int)) [some (.ref w), some (.ref (w + 2)), some (.int (I32 gr)), none, none] hG (by decide) rfl (Nat.le_of_ble_eq_true rfl) rfl ?_
  rintro X rfl rfl C hcl hsl E
  have loop : ∀ (m : Nat) (i : Int), 0 ≤ i → i + m = mu w 2 → V X 5 [some (.ref w), some (.ref (w + 2)), some (.int (I32 gr)), some (.int (I32 (jTG (mu (w + 2)) gr i.toNat))), some (.int (I32 i))] [] S n mu la 0 0 := by
    intro m
    induction m with
    | zero =>
      intro i h1 h2
      have e1 : i = mu w 2 := by omega
      subst e1
      refine V_iload C dL_tabs_5 rfl ?_
      refine V_aload_n C dL_tabs_7 rfl ?_
      refine V_iconst C dL_tabs_8 ?_
      refine V_iald C dL_tabs_9 hg (by first | assumption | decide) (by omega) ?_
      refine V_icmp_ge C 43 dL_tabs_10 (by decide) (by omega) (by omega) (fun c => ?_) (fun c => ?_)
      · refine V_iload_n C dL_tabs_43 rfl ?_
        refine V_ireturn C E dL_tabs_44 (by omega) (by omega) ?_
        exact Dt_rfl
      · exact absurd c (by omega)
    | succ m ih =>
      intro i h1 h2
      have ih := ih (i + 1) (by omega) (by omega)
      rw [jTG_s h1] at ih
      have b2 := hR (w + 2) (4 * i + 2)
      refine V_iload C dL_tabs_5 rfl ?_
      refine V_aload_n C dL_tabs_7 rfl ?_
      refine V_iconst C dL_tabs_8 ?_
      refine V_iald C dL_tabs_9 hg (by first | assumption | decide) (by omega) ?_
      refine V_icmp_ge C 43 dL_tabs_10 (by decide) (by omega) (by omega) (fun c => ?_) (fun c => ?_)
      · exact absurd c (by omega)
      · refine V_iload_n C dL_tabs_13 rfl ?_
        refine V_iload_n C dL_tabs_14 rfl ?_
        refine V_if_lt C 34 dL_tabs_15 (by decide) (by omega) (fun c1 => ?_) (fun c1 => ?_)
        · rw [if_neg (fun q => by omega)] at ih
          refine V_iconst C dL_tabs_34 ?_
          refine V_iadd C dL_tabs_35 ?_
          refine V_istore_n C dL_tabs_36 rfl (by decide) ?_
          refine V_iinc C dL_tabs_37 rfl rfl (by decide) ?_
          refine V_goto C 5 dL_tabs_40 (by decide) ?_
          exact ih
        · refine V_aload_n C dL_tabs_18 rfl ?_
          refine V_iconst C dL_tabs_19 ?_
          refine V_iload C dL_tabs_20 rfl ?_
          refine V_imul C dL_tabs_22 ?_
          refine V_iconst C dL_tabs_23 ?_
          refine V_iadd C dL_tabs_24 ?_
          refine V_iald C dL_tabs_25 hQ (by first | assumption | decide) (by omega) ?_
          refine V_iload_n C dL_tabs_26 rfl ?_
          refine V_icmp_ne C 34 dL_tabs_27 (by decide) (by omega) (by omega) (fun c2 => ?_) (fun c2 => ?_)
          · rw [if_neg (fun q => c2 q.2)] at ih
            refine V_iconst C dL_tabs_34 ?_
            refine V_iadd C dL_tabs_35 ?_
            refine V_istore_n C dL_tabs_36 rfl (by decide) ?_
            refine V_iinc C dL_tabs_37 rfl rfl (by decide) ?_
            refine V_goto C 5 dL_tabs_40 (by decide) ?_
            exact ih
          · rw [if_pos ⟨by omega, c2⟩] at ih
            refine V_iconst C dL_tabs_30 ?_
            refine V_goto C 35 dL_tabs_31 (by decide) ?_
            refine V_iadd C dL_tabs_35 ?_
            refine V_istore_n C dL_tabs_36 rfl (by decide) ?_
            refine V_iinc C dL_tabs_37 rfl rfl (by decide) ?_
            refine V_goto C 5 dL_tabs_40 (by decide) ?_
            exact ih
  have h9 := loop (mu w 2).toNat 0 (by omega) (by omega)
  refine V_iconst C dL_tabs_0 ?_
  refine V_istore_n C dL_tabs_1 rfl (by decide) ?_
  refine V_iconst C dL_tabs_2 ?_
  refine V_istore C dL_tabs_3 rfl (by decide) ?_
  exact h9
set_option maxRecDepth 20000 in
theorem ggL_state_L_signOf : GoodIn wsL_state wsL_signOf := goodIn_r _ [4] (by decide +kernel) (by decide +kernel)
set_option maxRecDepth 20000 in
theorem gL_state_L_signOf : GoodIn wsL_state (va_wsS RL 18 yL_signOf wsL_signOf) := goodIn_app (goodIn_of _ (by decide +kernel)) ggL_state_L_signOf
theorem dL_state_0 : decode cL_state 0 = .ok (.aload_n 2, 1) := by decide +kernel
theorem dL_state_1 : decode cL_state 1 = .ok (.iconst 4, 1) := by decide +kernel
theorem dL_state_2 : decode cL_state 2 = .ok (.iload_n 3, 1) := by decide +kernel
theorem dL_state_3 : decode cL_state 3 = .ok (.imul, 1) := by decide +kernel
theorem dL_state_4 : decode cL_state 4 = .ok (.iconst 2, 1) := by decide +kernel
theorem dL_state_5 : decode cL_state 5 = .ok (.iadd, 1) := by decide +kernel
theorem dL_state_6 : decode cL_state 6 = .ok (.iaload, 1) := by decide +kernel
theorem dL_state_7 : decode cL_state 7 = .ok (.ifCond .ge 7, 3) := by decide +kernel
theorem dL_state_10 : decode cL_state 10 = .ok (.iconst 0, 1) := by decide +kernel
theorem dL_state_11 : decode cL_state 11 = .ok (.goto 23, 3) := by decide +kernel
theorem dL_state_14 : decode cL_state 14 = .ok (.aload_n 0, 1) := by decide +kernel
theorem dL_state_15 : decode cL_state 15 = .ok (.aload_n 1, 1) := by decide +kernel
theorem dL_state_16 : decode cL_state 16 = .ok (.aload_n 2, 1) := by decide +kernel
theorem dL_state_17 : decode cL_state 17 = .ok (.iconst 4, 1) := by decide +kernel
theorem dL_state_18 : decode cL_state 18 = .ok (.iload_n 3, 1) := by decide +kernel
theorem dL_state_19 : decode cL_state 19 = .ok (.imul, 1) := by decide +kernel
theorem dL_state_20 : decode cL_state 20 = .ok (.iconst 2, 1) := by decide +kernel
theorem dL_state_21 : decode cL_state 21 = .ok (.iadd, 1) := by decide +kernel
theorem dL_state_22 : decode cL_state 22 = .ok (.iaload, 1) := by decide +kernel
theorem dL_state_23 : decode cL_state 23 = .ok (.invokestatic 18, 3) := by decide +kernel
theorem dL_state_26 : decode cL_state 26 = .ok (.ifCond .ge 7, 3) := by decide +kernel
theorem dL_state_29 : decode cL_state 29 = .ok (.iconst 2, 1) := by decide +kernel
theorem dL_state_30 : decode cL_state 30 = .ok (.goto 4, 3) := by decide +kernel
theorem dL_state_33 : decode cL_state 33 = .ok (.iconst 1, 1) := by decide +kernel
theorem dL_state_34 : decode cL_state 34 = .ok (.ireturn, 1) := by decide +kernel
theorem l_state (hG : GP G) (hL : LwS S w) (hR : R32 mu) {p : Int} (hp : 0 ≤ p ∧ p < 5) (hm : 0 ≤ mu w 3 ∧ mu w 3 ≤ 16) :
    Ct G l yL_state wsL_state 1 0 0 [.ref w, .ref (w + 1), .ref (w + 2), .int (I32 p)] S n mu la (Dt (some (.int (I32 (jX mu w p)))) S n mu la) := by
  have hQ := hL.2.2.1
  have b2 := hR (w + 2) (4 * p + 2)
  have sb := jS_b (gr := mu (w + 2) (4 * p + 2)) hm
  refine Ct.ofV (cc := cL_state) (nL := 4) (ret := (some .int)) [some (.ref w), some (.ref (w + 1)), some (.ref (w + 2)), some (.int (I32 p))] hG (by decide) rfl (Nat.le_of_ble_eq_true rfl) rfl ?_
  rintro X rfl rfl C hcl hsl E
  refine V_aload_n C dL_state_0 rfl ?_
  refine V_iconst C dL_state_1 ?_
  refine V_iload_n C dL_state_2 rfl ?_
  refine V_imul C dL_state_3 ?_
  refine V_iconst C dL_state_4 ?_
  refine V_iadd C dL_state_5 ?_
  refine V_iald C dL_state_6 hQ (by first | assumption | decide) (by omega) ?_
  refine V_if_ge C 14 dL_state_7 (by decide) (by omega) (fun c => ?_) (fun c => ?_)
  · refine V_aload_n C dL_state_14 rfl ?_
    refine V_aload_n C dL_state_15 rfl ?_
    refine V_aload_n C dL_state_16 rfl ?_
    refine V_iconst C dL_state_17 ?_
    refine V_iload_n C dL_state_18 rfl ?_
    refine V_imul C dL_state_19 ?_
    refine V_iconst C dL_state_20 ?_
    refine V_iadd C dL_state_21 ?_
    refine V_iald C dL_state_22 hQ (by first | assumption | decide) (by omega) ?_
    refine V_callSD (nA := 3) C dL_state_23 (l_signOf C.gp hL hR hm b2) gL_state_L_signOf rfl (by decide +kernel) rfl (by decide) (by decide) (Nat.le_of_ble_eq_true rfl) ⟨by omega, by omega⟩ rfl ?_
    refine V_if_ge C 33 dL_state_26 (by decide) (by omega) (fun c1 => ?_) (fun c1 => ?_)
    · refine V_iconst C dL_state_33 ?_
      refine V_ireturn C E dL_state_34 (by omega) (by omega) ?_
      rw [jX, if_neg (by omega), if_neg (by omega)]
      exact Dt_rfl
    · refine V_iconst C dL_state_29 ?_
      refine V_goto C 34 dL_state_30 (by decide) ?_
      refine V_ireturn C E dL_state_34 (by omega) (by omega) ?_
      rw [jX, if_neg (by omega), if_pos (by omega)]
      exact Dt_rfl
  · refine V_iconst C dL_state_10 ?_
    refine V_goto C 34 dL_state_11 (by decide) ?_
    refine V_ireturn C E dL_state_34 (by omega) (by omega) ?_
    rw [jX, if_pos (by omega)]
    exact Dt_rfl
theorem dL_groups_0 : decode cL_groups 0 = .ok (.iconst 0, 1) := by decide +kernel
theorem dL_groups_1 : decode cL_groups 1 = .ok (.istore_n 2, 1) := by decide +kernel
theorem dL_groups_2 : decode cL_groups 2 = .ok (.iconst 0, 1) := by decide +kernel
theorem dL_groups_3 : decode cL_groups 3 = .ok (.istore_n 3, 1) := by decide +kernel
theorem dL_groups_4 : decode cL_groups 4 = .ok (.iload_n 3, 1) := by decide +kernel
theorem dL_groups_5 : decode cL_groups 5 = .ok (.aload_n 0, 1) := by decide +kernel
theorem dL_groups_6 : decode cL_groups 6 = .ok (.iconst 3, 1) := by decide +kernel
theorem dL_groups_7 : decode cL_groups 7 = .ok (.iaload, 1) := by decide +kernel
theorem dL_groups_8 : decode cL_groups 8 = .ok (.if_icmp .ge 26, 3) := by decide +kernel
theorem dL_groups_11 : decode cL_groups 11 = .ok (.iload_n 2, 1) := by decide +kernel
theorem dL_groups_12 : decode cL_groups 12 = .ok (.aload_n 1, 1) := by decide +kernel
theorem dL_groups_13 : decode cL_groups 13 = .ok (.iconst 3, 1) := by decide +kernel
theorem dL_groups_14 : decode cL_groups 14 = .ok (.iload_n 3, 1) := by decide +kernel
theorem dL_groups_15 : decode cL_groups 15 = .ok (.imul, 1) := by decide +kernel
theorem dL_groups_16 : decode cL_groups 16 = .ok (.iaload, 1) := by decide +kernel
theorem dL_groups_17 : decode cL_groups 17 = .ok (.iconst 1, 1) := by decide +kernel
theorem dL_groups_18 : decode cL_groups 18 = .ok (.if_icmp .ne 7, 3) := by decide +kernel
theorem dL_groups_21 : decode cL_groups 21 = .ok (.iconst 1, 1) := by decide +kernel
theorem dL_groups_22 : decode cL_groups 22 = .ok (.goto 4, 3) := by decide +kernel
theorem dL_groups_25 : decode cL_groups 25 = .ok (.iconst 0, 1) := by decide +kernel
theorem dL_groups_26 : decode cL_groups 26 = .ok (.iadd, 1) := by decide +kernel
theorem dL_groups_27 : decode cL_groups 27 = .ok (.istore_n 2, 1) := by decide +kernel
theorem dL_groups_28 : decode cL_groups 28 = .ok (.iinc 3 1, 3) := by decide +kernel
theorem dL_groups_31 : decode cL_groups 31 = .ok (.goto (-27), 3) := by decide +kernel
theorem dL_groups_34 : decode cL_groups 34 = .ok (.iload_n 2, 1) := by decide +kernel
theorem dL_groups_35 : decode cL_groups 35 = .ok (.ireturn, 1) := by decide +kernel
theorem l_groups (hG : GP G) (hL : LwS S w) (hR : R32 mu) (hm : 0 ≤ mu w 3 ∧ mu w 3 ≤ 16) :
    Ct G l yL_groups wsL_groups 0 0 0 [.ref w, .ref (w + 1)] S n mu la (Dt (some (.int (I32 (jG mu w)))) S n mu la) := by
  obtain ⟨hg, hQ, -, -⟩ := hL
  refine Ct.ofV (cc := cL_groups) (nL := 4) (ret := (some .int)) [some (.ref w), some (.ref (w + 1)), none, none] hG (by decide) rfl (Nat.le_of_ble_eq_true rfl) rfl ?_
  rintro X rfl rfl C hcl hsl E
  have loop : ∀ (m : Nat) (i : Int), 0 ≤ i → i + m = mu w 3 → V X 4 [some (.ref w), some (.ref (w + 1)), some (.int (I32 (jGG (mu (w + 1)) i.toNat))), some (.int (I32 i))] [] S n mu la 0 0 := by
    intro m
    induction m with
    | zero =>
      intro i h1 h2
      have e1 : i = mu w 3 := by omega
      subst e1
      refine V_iload_n C dL_groups_4 rfl ?_
      refine V_aload_n C dL_groups_5 rfl ?_
      refine V_iconst C dL_groups_6 ?_
      refine V_iald C dL_groups_7 hg (by first | assumption | decide) (by omega) ?_
      refine V_icmp_ge C 34 dL_groups_8 (by decide) (by omega) (by omega) (fun c => ?_) (fun c => ?_)
      · refine V_iload_n C dL_groups_34 rfl ?_
        refine V_ireturn C E dL_groups_35 (by omega) (by omega) ?_
        exact Dt_rfl
      · exact absurd c (by omega)
    | succ m ih =>
      intro i h1 h2
      have ih := ih (i + 1) (by omega) (by omega)
      rw [jGG_s h1] at ih
      have b1 := hR (w + 1) (3 * i)
      refine V_iload_n C dL_groups_4 rfl ?_
      refine V_aload_n C dL_groups_5 rfl ?_
      refine V_iconst C dL_groups_6 ?_
      refine V_iald C dL_groups_7 hg (by first | assumption | decide) (by omega) ?_
      refine V_icmp_ge C 34 dL_groups_8 (by decide) (by omega) (by omega) (fun c => ?_) (fun c => ?_)
      · exact absurd c (by omega)
      · refine V_iload_n C dL_groups_11 rfl ?_
        refine V_aload_n C dL_groups_12 rfl ?_
        refine V_iconst C dL_groups_13 ?_
        refine V_iload_n C dL_groups_14 rfl ?_
        refine V_imul C dL_groups_15 ?_
        refine V_iald C dL_groups_16 hQ (by first | assumption | decide) (by omega) ?_
        refine V_iconst C dL_groups_17 ?_
        refine V_icmp_ne C 25 dL_groups_18 (by decide) (by omega) (by omega) (fun c1 => ?_) (fun c1 => ?_)
        · rw [if_neg c1] at ih
          refine V_iconst C dL_groups_25 ?_
          refine V_iadd C dL_groups_26 ?_
          refine V_istore_n C dL_groups_27 rfl (by decide) ?_
          refine V_iinc C dL_groups_28 rfl rfl (by decide) ?_
          refine V_goto C 4 dL_groups_31 (by decide) ?_
          exact ih
        · rw [if_pos c1] at ih
          refine V_iconst C dL_groups_21 ?_
          refine V_goto C 26 dL_groups_22 (by decide) ?_
          refine V_iadd C dL_groups_26 ?_
          refine V_istore_n C dL_groups_27 rfl (by decide) ?_
          refine V_iinc C dL_groups_28 rfl rfl (by decide) ?_
          refine V_goto C 4 dL_groups_31 (by decide) ?_
          exact ih
  have h9 := loop (mu w 3).toNat 0 (by omega) (by omega)
  refine V_iconst C dL_groups_0 ?_
  refine V_istore_n C dL_groups_1 rfl (by decide) ?_
  refine V_iconst C dL_groups_2 ?_
  refine V_istore_n C dL_groups_3 rfl (by decide) ?_
  exact h9
set_option maxRecDepth 20000 in
theorem ggL_founds_L_tabs : GoodIn wsL_founds wsL_tabs := goodIn_r _ [4] (by decide +kernel) (by decide +kernel)
set_option maxRecDepth 20000 in
theorem gL_founds_L_tabs : GoodIn wsL_founds (va_wsS RL 22 yL_tabs wsL_tabs) := goodIn_app (goodIn_of _ (by decide +kernel)) ggL_founds_L_tabs
theorem dL_founds_0 : decode cL_founds 0 = .ok (.iconst 0, 1) := by decide +kernel
theorem dL_founds_1 : decode cL_founds 1 = .ok (.istore_n 3, 1) := by decide +kernel
theorem dL_founds_2 : decode cL_founds 2 = .ok (.aload_n 0, 1) := by decide +kernel
theorem dL_founds_3 : decode cL_founds 3 = .ok (.aload_n 1, 1) := by decide +kernel
theorem dL_founds_4 : decode cL_founds 4 = .ok (.iload_n 3, 1) := by decide +kernel
theorem dL_founds_5 : decode cL_founds 5 = .ok (.invokestatic 22, 3) := by decide +kernel
theorem dL_founds_8 : decode cL_founds 8 = .ok (.ifCond .le 9, 3) := by decide +kernel
theorem dL_founds_11 : decode cL_founds 11 = .ok (.iinc 3 1, 3) := by decide +kernel
theorem dL_founds_14 : decode cL_founds 14 = .ok (.goto (-12), 3) := by decide +kernel
theorem dL_founds_17 : decode cL_founds 17 = .ok (.aload_n 1, 1) := by decide +kernel
theorem dL_founds_18 : decode cL_founds 18 = .ok (.iconst 4, 1) := by decide +kernel
theorem dL_founds_19 : decode cL_founds 19 = .ok (.iload_n 2, 1) := by decide +kernel
theorem dL_founds_20 : decode cL_founds 20 = .ok (.imul, 1) := by decide +kernel
theorem dL_founds_21 : decode cL_founds 21 = .ok (.iconst 2, 1) := by decide +kernel
theorem dL_founds_22 : decode cL_founds 22 = .ok (.iadd, 1) := by decide +kernel
theorem dL_founds_23 : decode cL_founds 23 = .ok (.iload_n 3, 1) := by decide +kernel
theorem dL_founds_24 : decode cL_founds 24 = .ok (.iastore, 1) := by decide +kernel
theorem dL_founds_25 : decode cL_founds 25 = .ok (.aload_n 1, 1) := by decide +kernel
theorem dL_founds_26 : decode cL_founds 26 = .ok (.iconst 4, 1) := by decide +kernel
theorem dL_founds_27 : decode cL_founds 27 = .ok (.iload_n 2, 1) := by decide +kernel
theorem dL_founds_28 : decode cL_founds 28 = .ok (.imul, 1) := by decide +kernel
theorem dL_founds_29 : decode cL_founds 29 = .ok (.iconst 3, 1) := by decide +kernel
theorem dL_founds_30 : decode cL_founds 30 = .ok (.iadd, 1) := by decide +kernel
theorem dL_founds_31 : decode cL_founds 31 = .ok (.iconst 0, 1) := by decide +kernel
theorem dL_founds_32 : decode cL_founds 32 = .ok (.iastore, 1) := by decide +kernel
theorem dL_founds_33 : decode cL_founds 33 = .ok (.aload_n 1, 1) := by decide +kernel
theorem dL_founds_34 : decode cL_founds 34 = .ok (.bipush 20, 2) := by decide +kernel
theorem dL_founds_36 : decode cL_founds 36 = .ok (.iload_n 3, 1) := by decide +kernel
theorem dL_founds_37 : decode cL_founds 37 = .ok (.iadd, 1) := by decide +kernel
theorem dL_founds_38 : decode cL_founds 38 = .ok (.iload_n 2, 1) := by decide +kernel
theorem dL_founds_39 : decode cL_founds 39 = .ok (.iastore, 1) := by decide +kernel
theorem dL_founds_40 : decode cL_founds 40 = .ok (.iload_n 3, 1) := by decide +kernel
theorem dL_founds_41 : decode cL_founds 41 = .ok (.ireturn, 1) := by decide +kernel
theorem l_founds (hG : GP G) (hL : LwS S w) (hR : R32 mu) {p g : Int} (hp : 0 ≤ p ∧ p < 5) (hm : 0 ≤ mu w 2 ∧ mu w 2 ≤ 5) (hg5 : 0 ≤ g ∧ g < 5) (h0 : jT mu w g ≤ 0) (h1 : ∀ x : Int, 0 ≤ x → x < g → 0 < jT mu w x) :
    Ct G l yL_founds wsL_founds 1 0 0 [.ref w, .ref (w + 2), .int (I32 p)] S n mu la (Dt (some (.int (I32 g))) S n (jF mu w p g) la) := by
  have hQ := hL.2.2.1
  refine Ct.ofV (cc := cL_founds) (nL := 4) (ret := (some .int)) [some (.ref w), some (.ref (w + 2)), some (.int (I32 p)), none] hG (by decide) rfl (Nat.le_of_ble_eq_true rfl) rfl ?_
  rintro X rfl rfl C hcl hsl E
  have loop : ∀ (m : Nat) (x : Int), 0 ≤ x → x + m = g → V X 2 [some (.ref w), some (.ref (w + 2)), some (.int (I32 p)), some (.int (I32 x))] [] S n mu la 0 0 := by
    intro m
    induction m with
    | zero =>
      intro x x1 x2
      have e1 : x = g := by omega
      subst e1
      have tb := jT_b (gr := x) hm
      refine V_aload_n C dL_founds_2 rfl ?_
      refine V_aload_n C dL_founds_3 rfl ?_
      refine V_iload_n C dL_founds_4 rfl ?_
      refine V_callSD (nA := 3) C dL_founds_5 (l_tabs C.gp hL hR hm ⟨by omega, by omega⟩) gL_founds_L_tabs rfl (by decide +kernel) rfl (by decide) (by decide) (Nat.le_of_ble_eq_true rfl) ⟨by omega, by omega⟩ rfl ?_
      refine V_if_le C 17 dL_founds_8 (by decide) (by omega) (fun c => ?_) (fun c => ?_)
      · refine V_aload_n C dL_founds_17 rfl ?_
        refine V_iconst C dL_founds_18 ?_
        refine V_iload_n C dL_founds_19 rfl ?_
        refine V_imul C dL_founds_20 ?_
        refine V_iconst C dL_founds_21 ?_
        refine V_iadd C dL_founds_22 ?_
        refine V_iload_n C dL_founds_23 rfl ?_
        refine V_iast C dL_founds_24 hQ (by first | assumption | decide) (by omega) ?_
        refine V_aload_n C dL_founds_25 rfl ?_
        refine V_iconst C dL_founds_26 ?_
        refine V_iload_n C dL_founds_27 rfl ?_
        refine V_imul C dL_founds_28 ?_
        refine V_iconst C dL_founds_29 ?_
        refine V_iadd C dL_founds_30 ?_
        refine V_iconst C dL_founds_31 ?_
        refine V_iast C dL_founds_32 hQ (by first | assumption | decide) (by omega) ?_
        refine V_aload_n C dL_founds_33 rfl ?_
        refine V_bipush C dL_founds_34 (by decide +kernel) ?_
        refine V_iload_n C dL_founds_36 rfl ?_
        refine V_iadd C dL_founds_37 ?_
        refine V_iload_n C dL_founds_38 rfl ?_
        refine V_iast C dL_founds_39 hQ (by first | assumption | decide) (by omega) ?_
        refine V_iload_n C dL_founds_40 rfl ?_
        refine V_ireturn C E dL_founds_41 (by omega) (by omega) ?_
        exact Dt_rfl
      · exact absurd c (by omega)
    | succ m ih =>
      intro x x1 x2
      have ih := ih (x + 1) (by omega) (by omega)
      have tb := jT_b (gr := x) hm
      have t1 := h1 x x1 (by omega)
      refine V_aload_n C dL_founds_2 rfl ?_
      refine V_aload_n C dL_founds_3 rfl ?_
      refine V_iload_n C dL_founds_4 rfl ?_
      refine V_callSD (nA := 3) C dL_founds_5 (l_tabs C.gp hL hR hm ⟨by omega, by omega⟩) gL_founds_L_tabs rfl (by decide +kernel) rfl (by decide) (by decide) (Nat.le_of_ble_eq_true rfl) ⟨by omega, by omega⟩ rfl ?_
      refine V_if_le C 17 dL_founds_8 (by decide) (by omega) (fun c => ?_) (fun c => ?_)
      · exact absurd c (by omega)
      · refine V_iinc C dL_founds_11 rfl rfl (by decide) ?_
        refine V_goto C 2 dL_founds_14 (by decide) ?_
        exact ih
  have h9 := loop g.toNat 0 (by omega) (by omega)
  refine V_iconst C dL_founds_0 ?_
  refine V_istore_n C dL_founds_1 rfl (by decide) ?_
  exact h9
end LR2
