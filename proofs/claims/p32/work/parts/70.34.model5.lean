/-! THE REFERENCE: its public calls that change the state -/
def hdM (mu : Mem) (r : Nat) : Mem := cpF mu (r + 1) (r + 3) 1639
def MWo (mu : Mem) (r : Nat) : Prop := R32 mu ∧ TB 10000000 (trT mu r) ∧ (0 ≤ mu (r + 1) 2 ∧ mu (r + 1) 2 ≤ 16) ∧ (0 ≤ mu r 4 ∧ mu r 4 ≤ 4) ∧ (0 ≤ mu r 6 ∧ mu r 6 ≤ 150)
theorem hdM_pt (mu : Mem) (r : Nat) : hdM mu r = ptT (hdM mu r) r (trT mu r) := by
  have h := pt_self (hdM mu r) r
  rw [show trT (hdM mu r) r = trT mu r from cpF_hold] at h
  exact h.symm
theorem hdM_1 (mu : Mem) (r : Nat) (i : Int) : hdM mu r (r + 1) i = mu (r + 1) i := cpF_off (by omega) i
theorem hdM_r (mu : Mem) (r : Nat) (i : Int) : hdM mu r r i = mu r i := cpF_off (by omega) i
theorem hdM_R {mu : Mem} (h : R32 mu) (r : Nat) : R32 (hdM mu r) := R32_cpF h _ _ _
def unM (mu : Mem) (r : Nat) : Mem := fun a i => if a = r + 1 ∧ 0 ≤ i ∧ i < 1639 then mu (r + 2) (1639 * (mu r 4 - 1) + i) else if a = r ∧ i = 4 then mu r 4 - 1 else if a = r ∧ i = 7 then 0 else mu a i
def unP (mu : Mem) (r : Nat) (j : Int) : Mem := fun a i => if a = r + 1 ∧ 0 ≤ i ∧ i < j then mu (r + 2) (1639 * (mu r 4 - 1) + i) else up mu r 4 (mu r 4 - 1) a i
theorem unP_0 (mu : Mem) (r : Nat) : unP mu r 0 = up mu r 4 (mu r 4 - 1) := by funext a i; unfold unP; rw [if_neg (by omega)]
theorem unP_4 (mu : Mem) (r : Nat) (j : Int) : unP mu r j r 4 = mu r 4 - 1 := by unfold unP; rw [if_neg (by omega), up_s]
theorem unP_2 (mu : Mem) (r : Nat) (j i : Int) : unP mu r j (r + 2) i = mu (r + 2) i := by unfold unP; rw [if_neg (by omega), up_a _ _ _ _ (by omega)]
theorem unP_s {mu : Mem} {r : Nat} {j : Int} (hj : 0 ≤ j) : up (unP mu r j) (r + 1) j (mu (r + 2) (1639 * (mu r 4 - 1) + j)) = unP mu r (j + 1) := by
  funext a i
  rw [up_e]
  unfold unP
  by_cases q1 : a = r + 1 ∧ i = j
  · rw [if_pos q1, if_pos (by omega), q1.2]
  · rw [if_neg q1]
    by_cases q2 : a = r + 1 ∧ 0 ≤ i ∧ i < j
    · rw [if_pos q2, if_pos (by omega)]
    · rw [if_neg q2, if_neg (by omega)]
theorem unP_all (mu : Mem) (r : Nat) : up (unP mu r 1639) r 7 0 = unM mu r := by
  funext a i
  rw [up_e]
  unfold unP unM
  rw [up_e]
  by_cases q1 : a = r + 1 ∧ 0 ≤ i ∧ i < 1639
  · rw [if_neg (by omega), if_pos q1, if_pos q1]
  · rw [if_neg q1, if_neg q1]
    by_cases q2 : a = r ∧ i = 7
    · rw [if_pos q2, if_neg (by omega), if_pos q2]
    · rw [if_neg q2, if_neg q2]
def swM (mu : Mem) (r : Nat) (w h : Int) : Mem := enM (up (up (hdM mu r) (r + 1) 0 w) (r + 1) 1 h) r
def slM (mu : Mem) (r : Nat) (p w h : Int) : Mem := enM (up (up (hdM mu r) (r + 1) (3 + 2 * p) w) (r + 1) (3 + 2 * p + 1) h) r
def rzP (T : Mem) (ps j : Int) : Mem := fun w o => if w = 2 ∧ 0 ≤ o ∧ o < j ∧ T 0 o = 4 ∧ ps < T 2 o then T 2 o - 1 else T w o
def rzT (T : Mem) (g : Int) : Mem := up (rzP T (T 2 g) 32) 2 g (ctT (rzP T (T 2 g) 32) 4 - 1)
def mvI (T : Mem) (was y o : Int) : Int := if (if was < T 10 o then T 10 o - 1 else T 10 o) < y then (if was < T 10 o then T 10 o - 1 else T 10 o) else (if was < T 10 o then T 10 o - 1 else T 10 o) + 1
def mvP (T : Mem) (g p was y j : Int) : Mem := fun w o => if w = 10 ∧ 0 ≤ o ∧ o < j ∧ T 9 o = g ∧ o ≠ p then mvI T was y o else T w o
def mvT (T : Mem) (P p y : Int) : Mem := up (mvP T (T 9 p) p (T 10 p) y P) 10 p y
theorem rzP_0 (T : Mem) (ps : Int) : rzP T ps 0 = T := by funext w o; unfold rzP; rw [if_neg (by omega)]
theorem mvP_0 (T : Mem) (g p was y : Int) : mvP T g p was y 0 = T := by funext w o; unfold mvP; rw [if_neg (by omega)]
theorem rzP_k (T : Mem) (ps j o : Int) {w : Nat} (hw : w ≠ 2) : rzP T ps j w o = T w o := by unfold rzP; rw [if_neg (by omega)]
theorem mvP_k (T : Mem) (g p was y j o : Int) {w : Nat} (hw : w ≠ 10) : mvP T g p was y j w o = T w o := by unfold mvP; rw [if_neg (by omega)]
theorem rzP_hi (T : Mem) (ps j o : Int) (ho : j ≤ o) (w : Nat) : rzP T ps j w o = T w o := by unfold rzP; rw [if_neg (by omega)]
theorem mvP_hi (T : Mem) (g p was y j o : Int) (ho : j ≤ o) (w : Nat) : mvP T g p was y j w o = T w o := by unfold mvP; rw [if_neg (by omega)]
theorem rzP_no {T : Mem} {ps j : Int} (h : ¬ (T 0 j = 4 ∧ ps < T 2 j)) : rzP T ps (j + 1) = rzP T ps j := by
  funext w o
  unfold rzP
  by_cases ho : o = j
  · subst ho; rw [if_neg (by omega), if_neg (by omega)]
  · by_cases c : w = 2 ∧ 0 ≤ o ∧ o < j ∧ T 0 o = 4 ∧ ps < T 2 o
    · rw [if_pos c, if_pos (by omega)]
    · rw [if_neg c, if_neg (by omega)]
theorem rzP_yes {T : Mem} {ps j : Int} (hj : 0 ≤ j) (h : T 0 j = 4 ∧ ps < T 2 j) : up (rzP T ps j) 2 j (T 2 j - 1) = rzP T ps (j + 1) := by
  funext w o
  unfold up rzP
  try dsimp only
  by_cases ho : w = 2 ∧ o = j
  · rw [if_pos ho, ho.2, if_pos (by omega)]
  · rw [if_neg ho]
    by_cases c : w = 2 ∧ 0 ≤ o ∧ o < j ∧ T 0 o = 4 ∧ ps < T 2 o
    · rw [if_pos c, if_pos (by omega)]
    · rw [if_neg c, if_neg (by omega)]
theorem mvP_no {T : Mem} {g p was y j : Int} (h : ¬ (T 9 j = g ∧ j ≠ p)) : mvP T g p was y (j + 1) = mvP T g p was y j := by
  funext w o
  unfold mvP
  by_cases ho : o = j
  · subst ho; rw [if_neg (by omega), if_neg (by omega)]
  · by_cases c : w = 10 ∧ 0 ≤ o ∧ o < j ∧ T 9 o = g ∧ o ≠ p
    · rw [if_pos c, if_pos (by omega)]
    · rw [if_neg c, if_neg (by omega)]
theorem mvP_yes {T : Mem} {g p was y j v : Int} (hj : 0 ≤ j) (h : T 9 j = g ∧ j ≠ p) (hv : v = mvI T was y j) : up (mvP T g p was y j) 10 j v = mvP T g p was y (j + 1) := by
  subst hv
  funext w o
  unfold up mvP
  try dsimp only
  by_cases ho : w = 10 ∧ o = j
  · rw [if_pos ho, ho.2, if_pos (by omega)]
  · rw [if_neg ho]
    by_cases c : w = 10 ∧ 0 ≤ o ∧ o < j ∧ T 9 o = g ∧ o ≠ p
    · rw [if_pos c, if_pos (by omega)]
    · rw [if_neg c, if_neg (by omega)]
theorem rzP_TB {N : Int} {T : Mem} (h : TB N T) (ps j : Int) : TB (N + 1) (rzP T ps j) := by
  refine ⟨fun w i hi => ?_, fun i hi => ?_, fun i hi => ?_⟩
  · unfold rzP
    split
    · rename_i z
      have := h.1 2 i (by rw [← z.1]; exact hi)
      omega
    · have := h.1 w i hi
      omega
  · rw [rzP_k _ _ _ _ (by decide)]; exact h.2.1 i hi
  · rw [rzP_k _ _ _ _ (by decide)]; exact h.2.2 i hi
section M5
variable {G : Gx} {l : Launch} {S : Sh} {n : Nat} {mu T : Mem} {la : Lam} {r : Nat}
def slF9 (P p w h : Int) : Int := if ¬ (0 ≤ p ∧ p ≤ P - 1) then 1 else if ¬ (1 ≤ w ∧ w ≤ 60) ∨ ¬ (1 ≤ h ∧ h ≤ 60) then 2 else 0
def avF (T : Mem) (P p : Int) : Int := if ¬ (0 ≤ p ∧ p ≤ P - 1) then 1 else if sxT T p = 0 then 2 else 0
theorem sxT_b (T : Mem) (p : Int) : 0 ≤ sxT T p ∧ sxT T p ≤ 2 := by unfold sxT; (repeat' split) <;> omega
theorem sxT_g {T : Mem} {p : Int} (h : sxT T p ≠ 0) : T 9 p ≠ -1 := by intro z; exact h (by rw [sxT, if_pos z])
def rzF (T : Mem) (P p : Int) : Int := if ¬ (0 ≤ p ∧ p ≤ P - 1) then 1 else if sxT T p = 2 then 0 else 2
def mtF (T : Mem) (P p y : Int) : Int := if ¬ (0 ≤ p ∧ p ≤ P - 1) then 1 else if sxT T p = 0 then 2 else if 0 ≤ y ∧ y ≤ tbT T P (T 9 p) - 1 then 0 else 3
def tyF9 (n v : Int) : Int := if ¬ (0 ≤ v ∧ v ≤ 127) then 1 else if n = 150 then 2 else 0
end M5
