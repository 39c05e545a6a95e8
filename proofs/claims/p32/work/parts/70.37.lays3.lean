/-! THE REFERENCE: sharing -/
def f1P (Z : Mem) (j : Int) : Mem := fun w i => if w = 15 ∧ 0 ≤ i ∧ i < j then (if 0 < Z 15 i then 1 else 0) else Z w i
def f0P (Z : Mem) (j : Int) : Mem := fun w i => if w = 15 ∧ 0 ≤ i ∧ i < j then 0 else Z w i
def wtI (T Z : Mem) (s k : Int) : Int := if 0 < Z 15 k then 0 else T 3 (chT T s k)
def rmI (T Z : Mem) (s k : Int) : Int := if 0 < Z 15 k then ltF T Z s (chT T s k) else 0
def wtF (T Z : Mem) (s : Int) (m : Nat) : Int := smG (wtI T Z s) m
def rmF9 (T Z : Mem) (s : Int) (m : Nat) (a : Int) : Int := a - smG (rmI T Z s) m
def frS (T Z : Mem) (s : Int) (m : Nat) (a : Int) : Mem := fxP T (f1P Z m) s (rmF9 T Z s m a) (wtF T Z s m) m
def frN (T Z : Mem) (s : Int) (m : Nat) (a : Int) : Int := smG (ffx T (f1P Z m) s (rmF9 T Z s m a) (wtF T Z s m)) m
/-- the looks, one behind the other: (rows, room) at the end -/
def frG (T : Mem) (s : Int) (m : Nat) (a : Int) : Nat → Mem → Mem × Int
  | 0, Z => (Z, 0)
  | d + 1, Z => if frN T Z s m a = 0 then (frS T Z s m a, rmF9 T Z s m a) else frG T s m a d (frS T Z s m a)
def okR (T : Mem) (s : Int) (m : Nat) (a : Int) : Nat → Mem → Prop
  | 0, _ => False
  | d + 1, Z => okX T (f1P Z m) s m (rmF9 T Z s m a) (wtF T Z s m) ∧ (frN T Z s m a ≠ 0 → okR T s m a d (frS T Z s m a))
def lfI (Z : Mem) (k : Int) : Int := if Z 15 k = 0 then Z 14 k else 0
def hwG : Nat → Int → Int → Mem → Mem
  | 0, _, _, Z => Z
  | d + 1, k, lf, Z => if 0 < lf then hwG d (k + 1) (lf - (if Z 15 k = 0 then 1 else 0)) (up Z 14 k (wr (Z 14 k + (if Z 15 k = 0 then 1 else 0)))) else Z
def sfF (T : Mem) (s : Int) (m : Nat) (a : Int) (Z : Mem) : Mem × Int := frG T s m a 18 (f0P Z m)
def sfZ (T : Mem) (s : Int) (m : Nat) (a : Int) (Z : Mem) : Mem := hwG m 0 ((sfF T s m a Z).2 - smG (lfI (sfF T s m a Z).1) m) (sfF T s m a Z).1
def okSF (T : Mem) (s : Int) (m : Nat) (a : Int) (Z : Mem) : Prop := okR T s m a 18 (f0P Z m) ∧ (-1000000 ≤ (sfF T s m a Z).2 - smG (lfI (sfF T s m a Z).1) m ∧ (sfF T s m a Z).2 - smG (lfI (sfF T s m a Z).1) m ≤ 1000000)
theorem f1P_0 (Z : Mem) : f1P Z 0 = Z := by funext w i; unfold f1P; rw [if_neg (by omega)]
theorem f0P_0 (Z : Mem) : f0P Z 0 = Z := by funext w i; unfold f0P; rw [if_neg (by omega)]
theorem f1P_k (Z : Mem) (j i : Int) {w : Nat} (h : w ≠ 15) : f1P Z j w i = Z w i := by unfold f1P; rw [if_neg (by omega)]
theorem f0P_k (Z : Mem) (j i : Int) {w : Nat} (h : w ≠ 15) : f0P Z j w i = Z w i := by unfold f0P; rw [if_neg (by omega)]
theorem f1P_hi (Z : Mem) (j i : Int) (h : j ≤ i) (w : Nat) : f1P Z j w i = Z w i := by unfold f1P; rw [if_neg (by omega)]
theorem f1P_s {Z : Mem} {j : Int} (hj : 0 ≤ j) : up (f1P Z j) 15 j (if 0 < Z 15 j then 1 else 0) = f1P Z (j + 1) := by
  funext w i
  rw [up_e]
  unfold f1P
  by_cases q1 : w = 15 ∧ i = j
  · rw [if_pos q1, if_pos (show w = 15 ∧ 0 ≤ i ∧ i < j + 1 by omega), q1.2]
  · rw [if_neg q1]
    by_cases q2 : w = 15 ∧ 0 ≤ i ∧ i < j
    · rw [if_pos q2, if_pos (show w = 15 ∧ 0 ≤ i ∧ i < j + 1 by omega)]
    · rw [if_neg q2, if_neg (by omega)]
theorem f0P_s {Z : Mem} {j : Int} (hj : 0 ≤ j) : up (f0P Z j) 15 j 0 = f0P Z (j + 1) := by
  funext w i
  rw [up_e]
  unfold f0P
  by_cases q1 : w = 15 ∧ i = j
  · rw [if_pos q1, if_pos (by omega)]
  · rw [if_neg q1]
    by_cases q2 : w = 15 ∧ 0 ≤ i ∧ i < j
    · rw [if_pos q2, if_pos (by omega)]
    · rw [if_neg q2, if_neg (by omega)]
theorem ltF_f1 (T Z : Mem) (j s2 c : Int) : ltF T (f1P Z j) s2 c = ltF T Z s2 c := by
  unfold ltF; rw [f1P_k _ _ _ (by decide), f1P_k _ _ _ (by decide)]
theorem f1P_R {Z : Mem} (h : R32Z Z) (j : Int) : R32Z (f1P Z j) := fun k i hk => by
  unfold f1P
  split
  · split <;> omega
  · exact h k i hk
theorem f0P_R {Z : Mem} (h : R32Z Z) (j : Int) : R32Z (f0P Z j) := fun k i hk => by
  unfold f0P
  split
  · omega
  · exact h k i hk
theorem frG_R {T : Mem} {s : Int} {m : Nat} {a : Int} : ∀ (d : Nat) {Z : Mem}, R32Z Z → okR T s m a d Z → R32Z (frG T s m a d Z).1
  | 0, Z, h, ho => h
  | d + 1, Z, h, ho => by
    have h1 : R32Z (frS T Z s m a) := fxP_R (f1P_R h m) ho.1 (Int.le_refl _)
    rw [frG]
    split
    · exact h1
    · rename_i z
      exact frG_R d h1 (ho.2 z)
theorem hwG_R : ∀ (d : Nat) (k lf : Int) {Z : Mem}, R32Z Z → R32Z (hwG d k lf Z)
  | 0, _, _, Z, h => h
  | d + 1, k, lf, Z, h => by
    rw [hwG]
    split
    · exact hwG_R d _ _ (h.upd 14 k (wr_b _))
    · exact h
theorem sfZ_R {T : Mem} {s : Int} {m : Nat} {a : Int} {Z : Mem} (h : R32Z Z) (ho : okSF T s m a Z) : R32Z (sfZ T s m a Z) := hwG_R m _ _ (frG_R 18 (f0P_R h m) ho.1)
theorem lfI_R {Z : Mem} (h : R32Z Z) (k : Int) : -2147483648 ≤ lfI Z k ∧ lfI Z k ≤ 2147483647 := by
  unfold lfI
  split
  · exact h 14 k (by decide)
  · omega
section M8
variable {G : Gx} {l : Launch} {S : Sh} {n : Nat} {mu T Z : Mem} {la : Lam} {r : Nat}
end M8
