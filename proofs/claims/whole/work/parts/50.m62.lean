/-! paneAt: parts -/
theorem tpG_e {T Z : Mem} {x y : Int} : ∀ m : Nat, (tpG T Z x y m = -1 ∧ ∀ o : Int, 0 ≤ o → o < m → ¬ (T 0 o = 4 ∧ cvT Z o x y = 1)) ∨
    ((0 ≤ tpG T Z x y m ∧ tpG T Z x y m < m) ∧ (T 0 (tpG T Z x y m) = 4 ∧ cvT Z (tpG T Z x y m) x y = 1) ∧ ∀ o : Int, 0 ≤ o → o < m → (T 0 o = 4 ∧ cvT Z o x y = 1) → T 2 o ≤ T 2 (tpG T Z x y m))
  | 0 => Or.inl ⟨rfl, fun o h1 h2 => by omega⟩
  | m + 1 => by
    have ih := tpG_e (T := T) (Z := Z) (x := x) (y := y) m
    unfold tpG
    by_cases z : T 0 m = 4 ∧ cvT Z m x y = 1
    · rw [if_pos z]
      rcases ih with ⟨a1, a2⟩ | ⟨a1, a2, a3⟩
      · rw [if_pos (Or.inl a1)]
        refine Or.inr ⟨by omega, z, fun o h1 h2 h3 => ?_⟩
        by_cases e : o = m
        · rw [e]; exact Int.le_refl _
        · exact absurd h3 (a2 o h1 (by omega))
      · by_cases w : T 2 (tpG T Z x y m) < T 2 m
        · rw [if_pos (Or.inr w)]
          refine Or.inr ⟨by omega, z, fun o h1 h2 h3 => ?_⟩
          by_cases e : o = m
          · rw [e]; exact Int.le_refl _
          · have := a3 o h1 (by omega) h3; omega
        · rw [if_neg (by omega)]
          refine Or.inr ⟨by omega, a2, fun o h1 h2 h3 => ?_⟩
          by_cases e : o = m
          · rw [e]; omega
          · exact a3 o h1 (by omega) h3
    · rw [if_neg z]
      rcases ih with ⟨a1, a2⟩ | ⟨a1, a2, a3⟩
      · refine Or.inl ⟨a1, fun o h1 h2 h3 => ?_⟩
        by_cases e : o = m
        · rw [e] at h3; exact z h3
        · exact a2 o h1 (by omega) h3
      · refine Or.inr ⟨by omega, a2, fun o h1 h2 h3 => ?_⟩
        by_cases e : o = m
        · rw [e] at h3; exact absurd h3 z
        · exact a3 o h1 (by omega) h3
theorem laG_e {f : Int → Int} : ∀ m : Nat, (laG f m = -1 ∧ ∀ o : Int, 0 ≤ o → o < m → f o ≠ 1) ∨ ((0 ≤ laG f m ∧ laG f m < m) ∧ f (laG f m) = 1)
  | 0 => Or.inl ⟨rfl, fun o h1 h2 => by omega⟩
  | m + 1 => by
    have ih := laG_e (f := f) m
    unfold laG
    by_cases z : f m = 1
    · rw [if_pos z]; exact Or.inr ⟨by omega, z⟩
    · rw [if_neg z]
      rcases ih with ⟨a1, a2⟩ | ⟨a1, a2⟩
      · refine Or.inl ⟨a1, fun o h1 h2 h3 => ?_⟩
        by_cases e : o = m
        · rw [e] at h3; exact z h3
        · exact a2 o h1 (by omega) h3
      · exact Or.inr ⟨by omega, a2⟩
theorem tgG_e {P : Mem} {x y : Int} {n : Nat} (hn : n ≤ 31) : ∀ (d j : Nat), j + d = n → (tgG P x y d j = -1 ∧ ∀ k : Int, j ≤ k → k < n → ¬ (¬ (32 ≤ P 2 k ∧ P 2 k < 47) ∧ cvF P (P 2 k) x y = 1)) ∨
    (∃ k : Int, (j ≤ k ∧ k < n) ∧ tgG P x y d j = P 2 k ∧ ¬ (32 ≤ P 2 k ∧ P 2 k < 47) ∧ cvF P (P 2 k) x y = 1)
  | 0, j, h => Or.inl ⟨rfl, fun k h1 h2 => by omega⟩
  | d + 1, j, h => by
    have ih := tgG_e (P := P) (x := x) (y := y) hn d (j + 1) (by omega)
    unfold tgG
    rw [gKr (by omega) (by omega)]
    by_cases z : ¬ (32 ≤ P 2 j ∧ P 2 j < 47) ∧ cvF P (P 2 j) x y = 1
    · rw [if_pos z]; exact Or.inr ⟨j, by omega, rfl, z⟩
    · rw [if_neg z]
      rcases ih with ⟨a1, a2⟩ | ⟨k, k1, k2⟩
      · refine Or.inl ⟨a1, fun k h1 h2 h3 => ?_⟩
        by_cases e : k = j
        · rw [e] at h3; exact z h3
        · exact a2 k (by omega) h2 h3
      · exact Or.inr ⟨k, by omega, k2⟩
section PA
variable {N : Int} {mu : Mem} {c h t p b q r : Nat}
/-- the shares of a split of the class's plan -/
theorem Look.sh {u : Int → Int} {rk : Int → Nat} {wn : Int → Int} (K : Look mu c p r u rk wn) {s : Int} (hs : InT (lay mu (c + 2)) s) (z : isZ s) :
    (∀ k : Int, 0 ≤ k → k < lay mu (c + 2) 2 s → 0 ≤ shC (pl mu p) (lay mu (c + 2)) s k) ∧ smG (shC (pl mu p) (lay mu (c + 2)) s) (lay mu (c + 2) 2 s).toNat ≤ cel (lay mu (c + 2)) (pl mu p 6 (2 * s + lay mu (c + 2) 5 (s - 32))) s := by
  have W := K.rl.wf
  have bs := (K.pln.bx s hs).1 _ (W.axs s z.1 z.2)
  have so := shOk_e W K.fu K.leb K.lel K.vl K.pln.p0.we hs z (sz := pl mu p 6 (2 * s + lay mu (c + 2) 5 (s - 32))) (by omega)
  have k0 := (kid0 W K.fu hs z).2.2
  have sb := shr_b so (by omega)
  exact ⟨fun k h1 h2 => sb.1 k h1 (by omega), sb.2⟩
/-- a group covers a point, on both sides alike -/
theorem Look.cv {u : Int → Int} {rk : Int → Nat} {wn : Int → Int} (K : Look mu c p r u rk wn) {x y : Int} (hx : 0 ≤ x ∧ x ≤ 1000) (hy : 0 ≤ y ∧ y ≤ 1000) {g : Int} (hg : Us (lay mu (c + 2)) (-1) g) (h32 : g < 32) :
    (cvF (pl mu p) g x y = 1 ↔ cov (pl mu p) (fun ax => if ax = 0 then x else y) g) ∧ (cvT (zW mu r) (u g) x y = 1 ↔ cov (pl mu p) (fun ax => if ax = 0 then x else y) g) := by
  obtain ⟨⟨⟨g1, g2⟩, g3, g4⟩, g5, -, -⟩ := K.grp hg h32
  have gb := hg.1
  have bd : (0 ≤ pl mu p 5 (2 * g + 0) ∧ pl mu p 5 (2 * g + 0) ≤ 20000) ∧ (0 ≤ pl mu p 5 (2 * g + 1) ∧ pl mu p 5 (2 * g + 1) ≤ 20000) ∧ 0 ≤ pl mu p 6 (2 * g + 0) ∧ pl mu p 6 (2 * g + 0) ≤ 400 := by
    by_cases f : lay mu (c + 2) 0 g = 48
    · have t0 := K.pln.p0.tp.flo g 0 gb.1 h32 f (Or.inl rfl)
      have t1 := K.pln.p0.tp.flo g 1 gb.1 h32 f (Or.inr rfl)
      have v0 := K.vl.flo g gb.1 h32 f 0 (Or.inl rfl)
      have v1 := K.vl.flo g gb.1 h32 f 1 (Or.inr rfl)
      rw [t0.1, t0.2.1, t1.1]
      omega
    · have b0 := (K.pln.bx g ⟨hg, f⟩).1 0 (Or.inl rfl)
      have b1 := (K.pln.bx g ⟨hg, f⟩).1 1 (Or.inr rfl)
      omega
  have cv : cov (pl mu p) (fun ax => if ax = 0 then x else y) g ↔ ((pl mu p 5 (2 * g + 0) ≤ x ∧ x < pl mu p 5 (2 * g + 0) + pl mu p 6 (2 * g + 0)) ∧ pl mu p 5 (2 * g + 1) ≤ y ∧ y < pl mu p 5 (2 * g + 1) + pl mu p 6 (2 * g + 1)) := by
    first | with_reducible refine Lkk.mk ?_ ?_ ?_ ?_ ?_ ?_ ?_ ?_ ?_ ?_ | with_reducible refine Look.mk ?_ ?_ ?_ ?_ ?_ ?_ ?_ ?_ ?_ ?_ ?_ ?_ ?_ | with_reducible refine CR.mk ?_ ?_ ?_ ?_ ?_ ?_ | with_reducible refine Hy.mk ?_ ?_ ?_ | with_reducible refine RS.mk ?_ ?_ ?_ ?_ ?_ ?_ ?_ ?_ | with_reducible refine LR.mk ?_ ?_ ?_ ?_ ?_ | with_reducible refine BxI.mk ?_ ?_ ?_ ?_ ?_ ?_ | with_reducible refine WkI.mk ?_ ?_ ?_ ?_ ?_ ?_ | with_reducible refine PlE.mk ?_ ?_ ?_ ?_ ?_ | with_reducible refine Pl0.mk ?_ ?_ ?_ ?_ | with_reducible refine Tp.mk ?_ ?_ | with_reducible refine Vl.mk ?_ ?_ | with_reducible refine Lk.mk ?_ | with_reducible refine RfQ.mk ?_ ?_ ?_ ?_ | with_reducible refine ShQ.mk ?_ ?_ ?_ ?_ | with_reducible refine Que.mk ?_ ?_ ?_ ?_ ?_ ?_ ?_ ?_ | with_reducible refine QuI.mk ?_ ?_ ?_ ?_ ?_ ?_ | with_reducible refine Ord.mk ?_ ?_ ?_ ?_ ?_ ?_ ?_ ?_ ?_ ?_ | with_reducible refine LnI.mk ?_ ?_ ?_ ?_ ?_ ?_ ?_ ?_ ?_ ?_ ?_ ?_ ?_ ?_ ?_ ?_ ?_ | with_reducible refine Rl.mk ?_ ?_ ?_ ?_ ?_ ?_ ?_ ?_ ?_ ?_ ?_ ?_ ?_ | with_reducible refine Wf.mk ?_ ?_ ?_ ?_ ?_ ?_ ?_ ?_ ?_ ?_ ?_ | with_reducible refine Mb.mk ?_ ?_ ?_ ?_ ?_ | constructor
    · intro h9
      have a0 := h9 0 (Or.inl rfl)
      have a1 := h9 1 (Or.inr rfl)
      exact ⟨a0, a1⟩
    · intro h9 ax ha
      rcases ha with rfl | rfl
      · exact h9.1
      · exact h9.2
  rw [cv]
  refine ⟨?_, ?_⟩
  · unfold cvF
    rw [gKr (by omega) (by omega), gKr (by omega) (by omega), gKr (by omega) (by omega), gKr (by omega) (by omega), wr_id (by omega), wr_id (by omega)]
    first | with_reducible refine Lkk.mk ?_ ?_ ?_ ?_ ?_ ?_ ?_ ?_ ?_ ?_ | with_reducible refine Look.mk ?_ ?_ ?_ ?_ ?_ ?_ ?_ ?_ ?_ ?_ ?_ ?_ ?_ | with_reducible refine CR.mk ?_ ?_ ?_ ?_ ?_ ?_ | with_reducible refine Hy.mk ?_ ?_ ?_ | with_reducible refine RS.mk ?_ ?_ ?_ ?_ ?_ ?_ ?_ ?_ | with_reducible refine LR.mk ?_ ?_ ?_ ?_ ?_ | with_reducible refine BxI.mk ?_ ?_ ?_ ?_ ?_ ?_ | with_reducible refine WkI.mk ?_ ?_ ?_ ?_ ?_ ?_ | with_reducible refine PlE.mk ?_ ?_ ?_ ?_ ?_ | with_reducible refine Pl0.mk ?_ ?_ ?_ ?_ | with_reducible refine Tp.mk ?_ ?_ | with_reducible refine Vl.mk ?_ ?_ | with_reducible refine Lk.mk ?_ | with_reducible refine RfQ.mk ?_ ?_ ?_ ?_ | with_reducible refine ShQ.mk ?_ ?_ ?_ ?_ | with_reducible refine Que.mk ?_ ?_ ?_ ?_ ?_ ?_ ?_ ?_ | with_reducible refine QuI.mk ?_ ?_ ?_ ?_ ?_ ?_ | with_reducible refine Ord.mk ?_ ?_ ?_ ?_ ?_ ?_ ?_ ?_ ?_ ?_ | with_reducible refine LnI.mk ?_ ?_ ?_ ?_ ?_ ?_ ?_ ?_ ?_ ?_ ?_ ?_ ?_ ?_ ?_ ?_ ?_ | with_reducible refine Rl.mk ?_ ?_ ?_ ?_ ?_ ?_ ?_ ?_ ?_ ?_ ?_ ?_ ?_ | with_reducible refine Wf.mk ?_ ?_ ?_ ?_ ?_ ?_ ?_ ?_ ?_ ?_ ?_ | with_reducible refine Mb.mk ?_ ?_ ?_ ?_ ?_ | constructor
    · intro h9
      split at h9
      · omega
      · omega
    · intro h9
      rw [if_pos (by omega)]
  · unfold cvT
    rw [← g1, ← g2, ← g3, ← g4, wr_id (by omega), wr_id (by omega)]
    first | with_reducible refine Lkk.mk ?_ ?_ ?_ ?_ ?_ ?_ ?_ ?_ ?_ ?_ | with_reducible refine Look.mk ?_ ?_ ?_ ?_ ?_ ?_ ?_ ?_ ?_ ?_ ?_ ?_ ?_ | with_reducible refine CR.mk ?_ ?_ ?_ ?_ ?_ ?_ | with_reducible refine Hy.mk ?_ ?_ ?_ | with_reducible refine RS.mk ?_ ?_ ?_ ?_ ?_ ?_ ?_ ?_ | with_reducible refine LR.mk ?_ ?_ ?_ ?_ ?_ | with_reducible refine BxI.mk ?_ ?_ ?_ ?_ ?_ ?_ | with_reducible refine WkI.mk ?_ ?_ ?_ ?_ ?_ ?_ | with_reducible refine PlE.mk ?_ ?_ ?_ ?_ ?_ | with_reducible refine Pl0.mk ?_ ?_ ?_ ?_ | with_reducible refine Tp.mk ?_ ?_ | with_reducible refine Vl.mk ?_ ?_ | with_reducible refine Lk.mk ?_ | with_reducible refine RfQ.mk ?_ ?_ ?_ ?_ | with_reducible refine ShQ.mk ?_ ?_ ?_ ?_ | with_reducible refine Que.mk ?_ ?_ ?_ ?_ ?_ ?_ ?_ ?_ | with_reducible refine QuI.mk ?_ ?_ ?_ ?_ ?_ ?_ | with_reducible refine Ord.mk ?_ ?_ ?_ ?_ ?_ ?_ ?_ ?_ ?_ ?_ | with_reducible refine LnI.mk ?_ ?_ ?_ ?_ ?_ ?_ ?_ ?_ ?_ ?_ ?_ ?_ ?_ ?_ ?_ ?_ ?_ | with_reducible refine Rl.mk ?_ ?_ ?_ ?_ ?_ ?_ ?_ ?_ ?_ ?_ ?_ ?_ ?_ | with_reducible refine Wf.mk ?_ ?_ ?_ ?_ ?_ ?_ ?_ ?_ ?_ ?_ ?_ | with_reducible refine Mb.mk ?_ ?_ ?_ ?_ ?_ | constructor
    · intro h9
      split at h9
      · omega
      · omega
    · intro h9
      rw [if_pos (by omega)]
end PA
