/-! THE REFERENCE: least sizes of splits, sharing -/
theorem I64_32 {x : Int} (h : -2147483648 ≤ x ∧ x ≤ 2147483647) : (I32 x).toInt64 = I64 x := by
  have e1 : Int32.minValue.toInt = -2147483648 := by decide
  have e2 : Int32.maxValue.toInt = 2147483647 := by decide
  exact Int32.toInt64_ofInt (by omega) (by omega)
theorem I64_add (x y : Int) : I64 x + I64 y = I64 (x + y) := (Int64.ofInt_add x y).symm
theorem I64_div {x y : Int} (hx : 0 ≤ x ∧ x ≤ 4000000000000) (hy : 0 < y ∧ y ≤ 4000000000000) : I64 x / I64 y = I64 (x / y) := by
  have e1 : Int64.minValue.toInt = -9223372036854775808 := by decide
  have e2 : Int64.maxValue.toInt = 9223372036854775807 := by decide
  have h := Int64.ofInt_tdiv (a := x) (b := y) (by omega) (by omega) (by omega) (by omega)
  rw [Int.tdiv_eq_ediv_of_nonneg hx.1] at h
  exact h.symm
theorem I64_to {x : Int} : (I64 x).toInt32 = I32 x := Int64.toInt32_ofInt
theorem I64_ne {y : Int} (hy : 0 < y ∧ y ≤ 4000000000000) : ¬ I64 y = 0 := by
  intro h
  have h2 : (I64 y).toInt = y := Int64.toInt_ofInt_of_le (by omega) (by omega)
  rw [h] at h2
  have : (0 : Int64).toInt = 0 := by decide
  omega
theorem prt_eq {a w s : Int} (ha : 0 ≤ a ∧ a ≤ 100000) (hw : 0 ≤ w ∧ w ≤ 1000000) (hs : 0 < s ∧ s ≤ 4000000000000) : ((I32 a).toInt64 * (I32 w).toInt64 / I64 s).toInt32 = I32 (a * w / s) := by
  rw [I64_32 (by omega), I64_32 (by omega), show I64 a * I64 w = I64 (a * w) from (Int64.ofInt_mul a w).symm, I64_div ?_ hs, I64_to]
  have h1 : 0 ≤ a * w := Int.mul_nonneg ha.1 hw.1
  have h2 : a * w ≤ 100000 * 1000000 := Int.mul_le_mul ha.2 hw.2 hw.1 (by decide)
  omega
def ltF (T Z : Mem) (s c : Int) : Int := if T 0 s = 2 then Z 7 c else Z 8 c
def exF (T Z : Mem) (s c : Int) : Int := if T 0 s = 2 then Z 11 c else Z 12 c
def lsZ (T Z : Mem) (x : Int) : Mem :=
  up (up Z 7 x (wr (if T 0 x = 2 then smG (fun k => Z 7 (chT T x k)) (kdT T x).toNat + kdT T x - 1 else mmG (fun k => Z 7 (chT T x k)) (kdT T x).toNat))) 8 x
    (wr (if T 0 x = 2 then mmG (fun k => Z 8 (chT T x k)) (kdT T x).toNat else smG (fun k => Z 8 (chT T x k)) (kdT T x).toNat + kdT T x - 1))
theorem ltF_R {T Z : Mem} (h : R32Z Z) (s c : Int) : -2147483648 ≤ ltF T Z s c ∧ ltF T Z s c ≤ 2147483647 := by
  unfold ltF; split
  · exact h 7 c (by decide)
  · exact h 8 c (by decide)
section M7
variable {G : Gx} {l : Launch} {S : Sh} {n : Nat} {mu T Z : Mem} {la : Lam} {r : Nat}
/-- a look of 'fixes' -/
def fsh (T Z : Mem) (s rm wt k : Int) : Int := if Z 15 k = 1 then ltF T Z s (chT T s k) else rm * T 3 (chT T s k) / wt
def ffx (T Z : Mem) (s rm wt k : Int) : Int := if Z 15 k = 0 ∧ fsh T Z s rm wt k < ltF T Z s (chT T s k) then 1 else 0
def fxP (T Z : Mem) (s rm wt j : Int) : Mem := fun w i => if w = 14 ∧ 0 ≤ i ∧ i < j then fsh T Z s rm wt i else if w = 15 ∧ 0 ≤ i ∧ i < j ∧ ffx T Z s rm wt i = 1 then 2 else Z w i
theorem fxP_0 (T Z : Mem) (s rm wt : Int) : fxP T Z s rm wt 0 = Z := by funext w i; unfold fxP; rw [if_neg (by omega), if_neg (by omega)]
theorem fxP_k (T Z : Mem) (s rm wt j i : Int) {w : Nat} (h : w ≠ 14) (h2 : w ≠ 15) : fxP T Z s rm wt j w i = Z w i := by unfold fxP; rw [if_neg (by omega), if_neg (by omega)]
theorem fxP_hi (T Z : Mem) (s rm wt j i : Int) (h : j ≤ i) (w : Nat) : fxP T Z s rm wt j w i = Z w i := by unfold fxP; rw [if_neg (by omega), if_neg (by omega)]
theorem ffx_b (T Z : Mem) (s rm wt k : Int) : 0 ≤ ffx T Z s rm wt k ∧ ffx T Z s rm wt k ≤ 1 := by unfold ffx; split <;> omega
theorem fxP_s {T Z : Mem} {s rm wt j : Int} (hj : 0 ≤ j) (h : ffx T Z s rm wt j = 0) : up (fxP T Z s rm wt j) 14 j (fsh T Z s rm wt j) = fxP T Z s rm wt (j + 1) := by
  funext w i
  rw [up_e]
  unfold fxP
  by_cases q1 : w = 14 ∧ i = j
  · rw [if_pos q1, if_pos (by omega), q1.2]
  · rw [if_neg q1]
    by_cases q2 : w = 14 ∧ 0 ≤ i ∧ i < j
    · rw [if_pos q2, if_pos (by omega)]
    · rw [if_neg q2]
      by_cases q3 : w = 15 ∧ 0 ≤ i ∧ i < j ∧ ffx T Z s rm wt i = 1
      · rw [if_pos q3, if_neg (by omega), if_pos (by omega)]
      · rw [if_neg q3, if_neg (by omega), if_neg]
        intro q4
        by_cases q5 : i = j
        · rw [q5] at q4; omega
        · omega
theorem fxP_t {T Z : Mem} {s rm wt j : Int} (hj : 0 ≤ j) (h : ffx T Z s rm wt j = 1) : up (up (fxP T Z s rm wt j) 14 j (fsh T Z s rm wt j)) 15 j 2 = fxP T Z s rm wt (j + 1) := by
  funext w i
  rw [up_e, up_e]
  unfold fxP
  by_cases q0 : w = 15 ∧ i = j
  · rw [if_pos q0, if_neg (by omega), if_pos (by rw [q0.2]; omega)]
  · rw [if_neg q0]
    by_cases q1 : w = 14 ∧ i = j
    · rw [if_pos q1, if_pos (by omega), q1.2]
    · rw [if_neg q1]
      by_cases q2 : w = 14 ∧ 0 ≤ i ∧ i < j
      · rw [if_pos q2, if_pos (by omega)]
      · rw [if_neg q2]
        by_cases q3 : w = 15 ∧ 0 ≤ i ∧ i < j ∧ ffx T Z s rm wt i = 1
        · rw [if_pos q3, if_neg (by omega), if_pos (by omega)]
        · rw [if_neg q3, if_neg (by omega), if_neg (by omega)]
theorem ltF_fx (T Z : Mem) (s rm wt j s2 c : Int) : ltF T (fxP T Z s rm wt j) s2 c = ltF T Z s2 c := by
  unfold ltF; rw [fxP_k _ _ _ _ _ _ _ (by decide) (by decide), fxP_k _ _ _ _ _ _ _ (by decide) (by decide)]
/-- what the look needs: children, weights, room -/
def okX (T Z : Mem) (s : Int) (m : Nat) (rm wt : Int) : Prop := (0 ≤ rm ∧ rm ≤ 1000) ∧ wt ≤ 100000000 ∧ (∀ k : Int, 0 ≤ k ∧ k < m → ¬ Z 15 k = 1 → 0 < wt) ∧ ∀ k : Int, 0 ≤ k ∧ k < m → 0 ≤ chT T s k ∧ 0 ≤ T 3 (chT T s k) ∧ T 3 (chT T s k) ≤ 1000000
theorem fsh_R {T Z : Mem} {s : Int} {m : Nat} {rm wt : Int} (hR : R32Z Z) (h : okX T Z s m rm wt) {k : Int} (hk : 0 ≤ k ∧ k < m) : -2147483648 ≤ fsh T Z s rm wt k ∧ fsh T Z s rm wt k ≤ 2147483647 := by
  unfold fsh
  split
  · exact ltF_R hR _ _
  · rename_i z
    have h1 := h.2.2.1 k hk z
    have h2 := h.2.2.2 k hk
    have h3 : 0 ≤ rm * T 3 (chT T s k) := Int.mul_nonneg h.1.1 h2.2.1
    have h4 : rm * T 3 (chT T s k) ≤ 1000 * 1000000 := Int.mul_le_mul h.1.2 h2.2.2 h2.2.1 (by decide)
    have h5 : 0 ≤ rm * T 3 (chT T s k) / wt := Int.ediv_nonneg h3 (by omega)
    have h6 : rm * T 3 (chT T s k) / wt ≤ rm * T 3 (chT T s k) := Int.ediv_le_self _ h3
    omega
theorem fxP_R {T Z : Mem} {s : Int} {m : Nat} {rm wt : Int} (hR : R32Z Z) (h : okX T Z s m rm wt) {j : Int} (hj : j ≤ m) : R32Z (fxP T Z s rm wt j) := by
  intro k i hk
  unfold fxP
  split
  · exact fsh_R hR h (by omega)
  · split
    · omega
    · exact hR k i hk
end M7
