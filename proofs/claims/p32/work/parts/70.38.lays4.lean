/-! THE REFERENCE: sharing of a split, all boxes -/
def shL (T Z : Mem) (s a sm j : Int) : Mem := fun w i => if w = 14 ∧ 0 ≤ i ∧ i < j then a * ltF T Z s (chT T s i) / sm else Z w i
def shI (T Z : Mem) (s a sm k : Int) : Int := a * ltF T Z s (chT T s k) / sm
def inP (Z : Mem) (j : Int) : Mem := fun w i => if w = 14 ∧ 0 ≤ i ∧ i < j then wr (Z 14 i + 1) else Z w i
def alF (T : Mem) (s c : Int) : Int := if 0 < c - (kdT T s - 1) then c - (kdT T s - 1) else 0
def suF (T Z : Mem) (s : Int) : Int := ltF T Z s s - (kdT T s - 1)
def tgZ (T Z : Mem) (s c : Int) : Mem := up Z 13 s (if alF T s c ≤ suF T Z s then 1 else 0)
def lvF (T Z : Mem) (s c : Int) : Int := alF T s c - smG (shI T Z s (alF T s c) (suF T Z s)) (kdT T s).toNat
def shZ (T Z : Mem) (s c : Int) : Mem :=
  if suF T Z s < alF T s c then sfZ T s (kdT T s).toNat (alF T s c) (tgZ T Z s c) else
    inP (shL T (tgZ T Z s c) s (alF T s c) (suF T Z s) (kdT T s)) (lvF T Z s c)
/-- what the sharing of a split needs -/
def okS (T Z : Mem) (s c : Int) : Prop := (-100000 ≤ c ∧ c ≤ 1000) ∧ (-1000000 ≤ ltF T Z s s ∧ ltF T Z s s ≤ 1000000) ∧ (kdT T s ≤ 16 ∧ ∀ k, 0 ≤ k ∧ k < kdT T s → 0 ≤ chT T s k) ∧
  (suF T Z s < alF T s c → okSF T s (kdT T s).toNat (alF T s c) (tgZ T Z s c)) ∧
  (¬ suF T Z s < alF T s c → 0 < suF T Z s ∧ (∀ k, 0 ≤ k ∧ k < kdT T s → 0 ≤ ltF T Z s (chT T s k) ∧ ltF T Z s (chT T s k) ≤ 100000) ∧ (-1000000 ≤ lvF T Z s c ∧ lvF T Z s c ≤ 16))
theorem shL_0 (T Z : Mem) (s a sm : Int) : shL T Z s a sm 0 = Z := by funext w i; unfold shL; rw [if_neg (by omega)]
theorem inP_0 (Z : Mem) : inP Z 0 = Z := by funext w i; unfold inP; rw [if_neg (by omega)]
theorem inP_n (Z : Mem) {j : Int} (h : j ≤ 0) : inP Z j = Z := by funext w i; unfold inP; rw [if_neg (by omega)]
theorem shL_k (T Z : Mem) (s a sm j i : Int) {w : Nat} (h : w ≠ 14) : shL T Z s a sm j w i = Z w i := by unfold shL; rw [if_neg (by omega)]
theorem shL_s {T Z : Mem} {s a sm j : Int} (hj : 0 ≤ j) : up (shL T Z s a sm j) 14 j (shI T Z s a sm j) = shL T Z s a sm (j + 1) := by
  funext w i
  rw [up_e]
  unfold shL shI
  by_cases q1 : w = 14 ∧ i = j
  · rw [if_pos q1, if_pos (by omega), q1.2]
  · rw [if_neg q1]
    by_cases q2 : w = 14 ∧ 0 ≤ i ∧ i < j
    · rw [if_pos q2, if_pos (by omega)]
    · rw [if_neg q2, if_neg (by omega)]
theorem inP_s {Z : Mem} {j : Int} (hj : 0 ≤ j) : up (inP Z j) 14 j (wr (Z 14 j + 1)) = inP Z (j + 1) := by
  funext w i
  rw [up_e]
  unfold inP
  by_cases q1 : w = 14 ∧ i = j
  · rw [if_pos q1, if_pos (by omega), q1.2]
  · rw [if_neg q1]
    by_cases q2 : w = 14 ∧ 0 ≤ i ∧ i < j
    · rw [if_pos q2, if_pos (by omega)]
    · rw [if_neg q2, if_neg (by omega)]
theorem ltF_tg (T Z : Mem) (s c s2 x : Int) : ltF T (tgZ T Z s c) s2 x = ltF T Z s2 x := by
  unfold ltF tgZ; rw [up_a _ _ _ _ (by decide), up_a _ _ _ _ (by decide)]
theorem ltF_sh (T Z : Mem) (s a sm j s2 x : Int) : ltF T (shL T Z s a sm j) s2 x = ltF T Z s2 x := by
  unfold ltF; rw [shL_k _ _ _ _ _ _ _ (by decide), shL_k _ _ _ _ _ _ _ (by decide)]
theorem shI_tg (T Z : Mem) (s c a sm k : Int) : shI T (tgZ T Z s c) s a sm k = shI T Z s a sm k := by unfold shI; rw [ltF_tg]
theorem alF_b {T : Mem} {s c : Int} (h : -100000 ≤ c ∧ c ≤ 1000) : 0 ≤ alF T s c ∧ alF T s c ≤ 1001 := by
  have := kdT_b T s
  unfold alF; split <;> omega
theorem shI_b {T Z : Mem} {s a sm k : Int} (ha : 0 ≤ a ∧ a ≤ 1001) (hl : 0 ≤ ltF T Z s (chT T s k) ∧ ltF T Z s (chT T s k) ≤ 100000) (hs : 0 < sm) : (0 ≤ a * ltF T Z s (chT T s k) ∧ a * ltF T Z s (chT T s k) ≤ 100100000) ∧ 0 ≤ shI T Z s a sm k ∧ shI T Z s a sm k ≤ 100100000 := by
  have h1 : 0 ≤ a * ltF T Z s (chT T s k) := Int.mul_nonneg ha.1 hl.1
  have h2 : a * ltF T Z s (chT T s k) ≤ 1001 * 100000 := Int.mul_le_mul ha.2 hl.2 hl.1 (by decide)
  have h3 : 0 ≤ a * ltF T Z s (chT T s k) / sm := Int.ediv_nonneg h1 (by omega)
  have h4 : a * ltF T Z s (chT T s k) / sm ≤ a * ltF T Z s (chT T s k) := Int.ediv_le_self _ h1
  unfold shI
  omega
theorem shZ_R {T Z : Mem} {s c : Int} (h : R32Z Z) (ho : okS T Z s c) : R32Z (shZ T Z s c) := by
  obtain ⟨o1, o2, o3, o4, o5⟩ := ho
  have ht : R32Z (tgZ T Z s c) := h.upd 13 s (by split <;> omega)
  unfold shZ
  split
  · rename_i z; exact sfZ_R ht (o4 z)
  · rename_i z
    obtain ⟨p1, p2, p3⟩ := o5 z
    intro k i hk
    unfold inP
    split
    · exact wr_b _
    · unfold shL
      split
      · rename_i y
        have := shI_b (T := T) (Z := Z) (s := s) (k := i) (alF_b (T := T) (s := s) o1) (p2 i (by omega)) p1
        rw [ltF_tg]
        unfold shI at this
        omega
      · exact ht k i hk
section M9
variable {G : Gx} {l : Launch} {S : Sh} {n : Nat} {mu T Z : Mem} {la : Lam} {r : Nat}
end M9
