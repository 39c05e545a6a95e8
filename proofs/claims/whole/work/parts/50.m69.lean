/-! THE WORDS -/
def wcd (k : Int) : Int := if k = 1 then 1885433445 else if k = 2 then 1701078885 else if k = 3 then 1685021547 else if k = 4 then 439905902964 else if k = 5 then 427021005669 else if k = 6 then 495672455781 else if k = 7 then 1935767141 else 1819238756
/-- letters and the number that they make -/
def pvC (B : Int → Int) (u L v : Int) : Prop :=
  (L = 0 ∧ v = 0) ∨ (L = 1 ∧ (97 ≤ B u ∧ B u ≤ 122) ∧ v = B u) ∨ (L = 2 ∧ (97 ≤ B u ∧ B u ≤ 122) ∧ (97 ≤ B (u + 1) ∧ B (u + 1) ≤ 122) ∧ v = 256 * B u + B (u + 1)) ∨
    (L = 3 ∧ (97 ≤ B u ∧ B u ≤ 122) ∧ (97 ≤ B (u + 1) ∧ B (u + 1) ≤ 122) ∧ (97 ≤ B (u + 1 + 1) ∧ B (u + 1 + 1) ≤ 122) ∧ v = 65536 * B u + 256 * B (u + 1) + B (u + 1 + 1)) ∨
    (L = 4 ∧ (97 ≤ B u ∧ B u ≤ 122) ∧ (97 ≤ B (u + 1) ∧ B (u + 1) ≤ 122) ∧ (97 ≤ B (u + 1 + 1) ∧ B (u + 1 + 1) ≤ 122) ∧ (97 ≤ B (u + 1 + 1 + 1) ∧ B (u + 1 + 1 + 1) ≤ 122) ∧ v = 16777216 * B u + 65536 * B (u + 1) + 256 * B (u + 1 + 1) + B (u + 1 + 1 + 1)) ∨
    (L = 5 ∧ (97 ≤ B u ∧ B u ≤ 122) ∧ (97 ≤ B (u + 1) ∧ B (u + 1) ≤ 122) ∧ (97 ≤ B (u + 1 + 1) ∧ B (u + 1 + 1) ≤ 122) ∧ (97 ≤ B (u + 1 + 1 + 1) ∧ B (u + 1 + 1 + 1) ≤ 122) ∧ (97 ≤ B (u + 1 + 1 + 1 + 1) ∧ B (u + 1 + 1 + 1 + 1) ≤ 122) ∧ v = 4294967296 * B u + 16777216 * B (u + 1) + 65536 * B (u + 1 + 1) + 256 * B (u + 1 + 1 + 1) + B (u + 1 + 1 + 1 + 1)) ∨ 6 ≤ L
theorem pv_c (B : Int → Int) (u : Int) (d : Nat) : pvC B u (scG B 97 122 d u - u) (pvG B u d u 0) := by
  unfold pvC
  cases d with
  | zero => left; rw [scG, pvG]; omega
  | succ d =>
  rw [scG, pvG]
  by_cases z0 : 97 ≤ B u ∧ B u ≤ 122
  · rw [if_pos z0, if_pos z0, if_pos (by omega)]
    cases d with
    | zero => right; left; rw [scG, pvG]; omega
    | succ d =>
    rw [scG, pvG]
    by_cases z1 : 97 ≤ B (u + 1) ∧ B (u + 1) ≤ 122
    · rw [if_pos z1, if_pos z1, if_pos (by omega)]
      cases d with
      | zero => right; right; left; rw [scG, pvG]; omega
      | succ d =>
      rw [scG, pvG]
      by_cases z2 : 97 ≤ B (u + 1 + 1) ∧ B (u + 1 + 1) ≤ 122
      · rw [if_pos z2, if_pos z2, if_pos (by omega)]
        cases d with
        | zero => right; right; right; left; rw [scG, pvG]; omega
        | succ d =>
        rw [scG, pvG]
        by_cases z3 : 97 ≤ B (u + 1 + 1 + 1) ∧ B (u + 1 + 1 + 1) ≤ 122
        · rw [if_pos z3, if_pos z3, if_pos (by omega)]
          cases d with
          | zero => right; right; right; right; left; rw [scG, pvG]; omega
          | succ d =>
          rw [scG, pvG]
          by_cases z4 : 97 ≤ B (u + 1 + 1 + 1 + 1) ∧ B (u + 1 + 1 + 1 + 1) ≤ 122
          · rw [if_pos z4, if_pos z4, if_pos (by omega)]
            cases d with
            | zero => right; right; right; right; right; left; rw [scG, pvG]; omega
            | succ d =>
            rw [scG, pvG]
            by_cases z5 : 97 ≤ B (u + 1 + 1 + 1 + 1 + 1) ∧ B (u + 1 + 1 + 1 + 1 + 1) ≤ 122
            · rw [if_pos z5, if_pos z5]
              have := scG_b B 97 122 d (u + 1 + 1 + 1 + 1 + 1 + 1)
              right; right; right; right; right; right; omega
            · rw [if_neg z5, if_neg z5]
              right; right; right; right; right; left; omega
          · rw [if_neg z4, if_neg z4]
            right; right; right; right; left; omega
        · rw [if_neg z3, if_neg z3]
          right; right; right; left; omega
      · rw [if_neg z2, if_neg z2]
        right; right; left; omega
    · rw [if_neg z1, if_neg z1]
      right; left; omega
  · rw [if_neg z0, if_neg z0]
    left; omega
theorem eq4 {B : Int → Int} {a b c d u : Int} : eqG B [a, b, c, d] u = true ↔ (B u = a ∧ B (u + 1) = b ∧ B (u + 1 + 1) = c ∧ B (u + 1 + 1 + 1) = d) := by
  simp only [eqG]
  by_cases h1 : B u = a
  · by_cases h2 : B (u + 1) = b
    · by_cases h3 : B (u + 1 + 1) = c
      · by_cases h4 : B (u + 1 + 1 + 1) = d
        · simp [h1, h2, h3, h4]
        · simp [h1, h2, h3, h4]
      · simp [h1, h2, h3]
    · simp [h1, h2]
  · simp [h1]
theorem eq5 {B : Int → Int} {a b c d e u : Int} : eqG B [a, b, c, d, e] u = true ↔ (B u = a ∧ B (u + 1) = b ∧ B (u + 1 + 1) = c ∧ B (u + 1 + 1 + 1) = d ∧ B (u + 1 + 1 + 1 + 1) = e) := by
  simp only [eqG]
  by_cases h1 : B u = a
  · by_cases h2 : B (u + 1) = b
    · by_cases h3 : B (u + 1 + 1) = c
      · by_cases h4 : B (u + 1 + 1 + 1) = d
        · by_cases h5 : B (u + 1 + 1 + 1 + 1) = e
          · simp [h1, h2, h3, h4, h5]
          · simp [h1, h2, h3, h4, h5]
        · simp [h1, h2, h3, h4]
      · simp [h1, h2, h3]
    · simp [h1, h2]
  · simp [h1]
theorem iw4 {m : Mem} {t : Nat} {W u a b c d : Int} {k : Nat} (h : eRw k = [a, b, c, d]) : iwF m t W u k = 1 ↔ (W - u = 4 ∧ tB m t u = a ∧ tB m t (u + 1) = b ∧ tB m t (u + 1 + 1) = c ∧ tB m t (u + 1 + 1 + 1) = d) := by
  unfold iwF
  rw [h]
  show (if (4 : Int) = W - u ∧ _ then (1 : Int) else 0) = 1 ↔ _
  first | with_reducible refine Lkk.mk ?_ ?_ ?_ ?_ ?_ ?_ ?_ ?_ ?_ ?_ | with_reducible refine Look.mk ?_ ?_ ?_ ?_ ?_ ?_ ?_ ?_ ?_ ?_ ?_ ?_ ?_ | with_reducible refine CR.mk ?_ ?_ ?_ ?_ ?_ ?_ | with_reducible refine Hy.mk ?_ ?_ ?_ | with_reducible refine RS.mk ?_ ?_ ?_ ?_ ?_ ?_ ?_ ?_ | with_reducible refine LR.mk ?_ ?_ ?_ ?_ ?_ | with_reducible refine BxI.mk ?_ ?_ ?_ ?_ ?_ ?_ | with_reducible refine WkI.mk ?_ ?_ ?_ ?_ ?_ ?_ | with_reducible refine PlE.mk ?_ ?_ ?_ ?_ ?_ | with_reducible refine Pl0.mk ?_ ?_ ?_ ?_ | with_reducible refine Tp.mk ?_ ?_ | with_reducible refine Vl.mk ?_ ?_ | with_reducible refine Lk.mk ?_ | with_reducible refine RfQ.mk ?_ ?_ ?_ ?_ | with_reducible refine ShQ.mk ?_ ?_ ?_ ?_ | with_reducible refine Que.mk ?_ ?_ ?_ ?_ ?_ ?_ ?_ ?_ | with_reducible refine QuI.mk ?_ ?_ ?_ ?_ ?_ ?_ | with_reducible refine Ord.mk ?_ ?_ ?_ ?_ ?_ ?_ ?_ ?_ ?_ ?_ | with_reducible refine LnI.mk ?_ ?_ ?_ ?_ ?_ ?_ ?_ ?_ ?_ ?_ ?_ ?_ ?_ ?_ ?_ ?_ ?_ | with_reducible refine Rl.mk ?_ ?_ ?_ ?_ ?_ ?_ ?_ ?_ ?_ ?_ ?_ ?_ ?_ | with_reducible refine Wf.mk ?_ ?_ ?_ ?_ ?_ ?_ ?_ ?_ ?_ ?_ ?_ | with_reducible refine Mb.mk ?_ ?_ ?_ ?_ ?_ | constructor
  · intro q
    split at q
    · rename_i z; exact ⟨z.1.symm, eq4.mp z.2⟩
    · omega
  · intro q
    rw [if_pos ⟨q.1.symm, eq4.mpr q.2⟩]
theorem iw5 {m : Mem} {t : Nat} {W u a b c d e : Int} {k : Nat} (h : eRw k = [a, b, c, d, e]) : iwF m t W u k = 1 ↔ (W - u = 5 ∧ tB m t u = a ∧ tB m t (u + 1) = b ∧ tB m t (u + 1 + 1) = c ∧ tB m t (u + 1 + 1 + 1) = d ∧ tB m t (u + 1 + 1 + 1 + 1) = e) := by
  unfold iwF
  rw [h]
  show (if (5 : Int) = W - u ∧ _ then (1 : Int) else 0) = 1 ↔ _
  first | with_reducible refine Lkk.mk ?_ ?_ ?_ ?_ ?_ ?_ ?_ ?_ ?_ ?_ | with_reducible refine Look.mk ?_ ?_ ?_ ?_ ?_ ?_ ?_ ?_ ?_ ?_ ?_ ?_ ?_ | with_reducible refine CR.mk ?_ ?_ ?_ ?_ ?_ ?_ | with_reducible refine Hy.mk ?_ ?_ ?_ | with_reducible refine RS.mk ?_ ?_ ?_ ?_ ?_ ?_ ?_ ?_ | with_reducible refine LR.mk ?_ ?_ ?_ ?_ ?_ | with_reducible refine BxI.mk ?_ ?_ ?_ ?_ ?_ ?_ | with_reducible refine WkI.mk ?_ ?_ ?_ ?_ ?_ ?_ | with_reducible refine PlE.mk ?_ ?_ ?_ ?_ ?_ | with_reducible refine Pl0.mk ?_ ?_ ?_ ?_ | with_reducible refine Tp.mk ?_ ?_ | with_reducible refine Vl.mk ?_ ?_ | with_reducible refine Lk.mk ?_ | with_reducible refine RfQ.mk ?_ ?_ ?_ ?_ | with_reducible refine ShQ.mk ?_ ?_ ?_ ?_ | with_reducible refine Que.mk ?_ ?_ ?_ ?_ ?_ ?_ ?_ ?_ | with_reducible refine QuI.mk ?_ ?_ ?_ ?_ ?_ ?_ | with_reducible refine Ord.mk ?_ ?_ ?_ ?_ ?_ ?_ ?_ ?_ ?_ ?_ | with_reducible refine LnI.mk ?_ ?_ ?_ ?_ ?_ ?_ ?_ ?_ ?_ ?_ ?_ ?_ ?_ ?_ ?_ ?_ ?_ | with_reducible refine Rl.mk ?_ ?_ ?_ ?_ ?_ ?_ ?_ ?_ ?_ ?_ ?_ ?_ ?_ | with_reducible refine Wf.mk ?_ ?_ ?_ ?_ ?_ ?_ ?_ ?_ ?_ ?_ ?_ | with_reducible refine Mb.mk ?_ ?_ ?_ ?_ ?_ | constructor
  · intro q
    split at q
    · rename_i z; exact ⟨z.1.symm, eq5.mp z.2⟩
    · omega
  · intro q
    rw [if_pos ⟨q.1.symm, eq5.mpr q.2⟩]
section WD
variable {m : Mem} {t : Nat} {W u v : Int}
theorem iw_0 (A : pvC (tB m t) u (W - u) v) : iwF m t W u 0 = 1 ↔ (W - u ≤ 5 ∧ v = 1885433445) := by
  rw [iw4 (show eRw 0 = [112, 97, 110, 101] from rfl)]
  rcases A with A | A | A | A | A | A | A <;> constructor <;> intro q <;> omega
theorem iw_1 (A : pvC (tB m t) u (W - u) v) : iwF m t W u 1 = 1 ↔ (W - u ≤ 5 ∧ v = 1701078885) := by
  rw [iw4 (show eRw 1 = [101, 100, 103, 101] from rfl)]
  rcases A with A | A | A | A | A | A | A <;> constructor <;> intro q <;> omega
theorem iw_2 (A : pvC (tB m t) u (W - u) v) : iwF m t W u 2 = 1 ↔ (W - u ≤ 5 ∧ v = 1685021547) := by
  rw [iw4 (show eRw 2 = [100, 111, 99, 107] from rfl)]
  rcases A with A | A | A | A | A | A | A <;> constructor <;> intro q <;> omega
theorem iw_3 (A : pvC (tB m t) u (W - u) v) : iwF m t W u 3 = 1 ↔ (W - u ≤ 5 ∧ v = 439905902964) := by
  rw [iw5 (show eRw 3 = [102, 108, 111, 97, 116] from rfl)]
  rcases A with A | A | A | A | A | A | A <;> constructor <;> intro q <;> omega
theorem iw_4 (A : pvC (tB m t) u (W - u) v) : iwF m t W u 4 = 1 ↔ (W - u ≤ 5 ∧ v = 427021005669) := by
  rw [iw5 (show eRw 4 = [99, 108, 111, 115, 101] from rfl)]
  rcases A with A | A | A | A | A | A | A <;> constructor <;> intro q <;> omega
theorem iw_5 (A : pvC (tB m t) u (W - u) v) : iwF m t W u 5 = 1 ↔ (W - u ≤ 5 ∧ v = 495672455781) := by
  rw [iw5 (show eRw 5 = [115, 104, 97, 114, 101] from rfl)]
  rcases A with A | A | A | A | A | A | A <;> constructor <;> intro q <;> omega
theorem iw_6 (A : pvC (tB m t) u (W - u) v) : iwF m t W u 6 = 1 ↔ (W - u ≤ 5 ∧ v = 1935767141) := by
  rw [iw4 (show eRw 6 = [115, 97, 118, 101] from rfl)]
  rcases A with A | A | A | A | A | A | A <;> constructor <;> intro q <;> omega
theorem iw_7 (A : pvC (tB m t) u (W - u) v) : iwF m t W u 7 = 1 ↔ (W - u ≤ 5 ∧ v = 1819238756) := by
  rw [iw4 (show eRw 7 = [108, 111, 97, 100] from rfl)]
  rcases A with A | A | A | A | A | A | A <;> constructor <;> intro q <;> omega
theorem wrd_e (A : pvC (tB m t) u (W - u) v) : (W - u ≤ 5 ∧ mnF v ≠ -1 → (1 ≤ wrdG m t W u 8 ∧ wrdG m t W u 8 ≤ 8) ∧ v = wcd (wrdG m t W u 8) ∧ mnF v = enN (wrdG m t W u 8)) ∧ (¬ (W - u ≤ 5 ∧ mnF v ≠ -1) → wrdG m t W u 8 = 0) := by
  have a0 := iw_0 A
  have a1 := iw_1 A
  have a2 := iw_2 A
  have a3 := iw_3 A
  have a4 := iw_4 A
  have a5 := iw_5 A
  have a6 := iw_6 A
  have a7 := iw_7 A
  clear A
  simp only [wrdG, a0, a1, a2, a3, a4, a5, a6, a7]
  clear a0 a1 a2 a3 a4 a5 a6 a7
  by_cases l : W - u ≤ 5
  · by_cases e0 : v = 1885433445
    · subst e0; simp [l, mnF, wcd, enN, eRn]
    by_cases e1 : v = 1701078885
    · subst e1; simp [l, mnF, wcd, enN, eRn]
    by_cases e2 : v = 1685021547
    · subst e2; simp [l, mnF, wcd, enN, eRn]
    by_cases e3 : v = 439905902964
    · subst e3; simp [l, mnF, wcd, enN, eRn]
    by_cases e4 : v = 427021005669
    · subst e4; simp [l, mnF, wcd, enN, eRn]
    by_cases e5 : v = 495672455781
    · subst e5; simp [l, mnF, wcd, enN, eRn]
    by_cases e6 : v = 1935767141
    · subst e6; simp [l, mnF, wcd, enN, eRn]
    by_cases e7 : v = 1819238756
    · subst e7; simp [l, mnF, wcd, enN, eRn]
    have e : mnF v = -1 := by
      unfold mnF
      rw [if_neg (by omega), if_neg (by omega), if_neg (by omega), if_neg (by omega)]
    rw [e]
    simp [e0, e1, e2, e3, e4, e5, e6, e7]
  · simp [l]
end WD
