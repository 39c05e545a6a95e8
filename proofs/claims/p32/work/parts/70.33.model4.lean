/-! THE REFERENCE: commands, their ends -/
def egF (P p s : Int) : Int := if ¬ (0 ≤ p ∧ p ≤ P - 1) then 1 else if ¬ (0 ≤ s ∧ s ≤ 3) then 2 else 0
def flF9 (P p x y w h : Int) : Int := if ¬ (0 ≤ p ∧ p ≤ P - 1) then 1 else if ¬ (0 ≤ x ∧ x ≤ 399) ∨ ¬ (0 ≤ y ∧ y ≤ 399) ∨ ¬ (1 ≤ w ∧ w ≤ 400) ∨ ¬ (1 ≤ h ∧ h ≤ 400) then 2 else 0
def wgF (T : Mem) (P p w : Int) : Int := if ¬ (0 ≤ p ∧ p ≤ P - 1) then 1 else if ¬ (1 ≤ w ∧ w ≤ 1000000) then 2 else if sxT T p ≠ 1 ∨ T 1 (T 9 p) = -1 then 3 else 0
def svF (k : Int) : Int := if 0 ≤ k ∧ k ≤ 3 then 0 else 1
def brF (mu : Mem) (r : Nat) (k : Int) : Int := if ¬ (0 ≤ k ∧ k ≤ 3) then 1 else if mu (r + 1) (355 + 321 * k) = 0 then 2 else 0
def svB (mu : Mem) (r : Nat) (T : Mem) (k : Int) : Mem := svP (up (ptT (up mu r 19 (mu (r + 1) (355 + 321 * k))) r T) (r + 1) (355 + 321 * k) 1) r (355 + 321 * k) 320
def brB (mu : Mem) (r : Nat) (k : Int) : Mem := ptT (up mu r 19 (smG (opn (trO mu r (355 + 321 * k + 1))) (mu (r + 1) 2).toNat)) r (trO mu r (355 + 321 * k + 1))
theorem inI_1 {v lo hi : Int} (h : lo ≤ v ∧ v ≤ hi) : inI v lo hi = 1 := by rw [inI, if_pos h]
theorem inI_0 {v lo hi : Int} (h : ¬ (lo ≤ v ∧ v ≤ hi)) : inI v lo hi = 0 := by rw [inI, if_neg h]
theorem ah2_b (s : Int) : 0 ≤ ah2 s ∧ ah2 s ≤ 1 := by unfold ah2; split <;> omega
theorem opn_b (T : Mem) (p : Int) : 0 ≤ opn T p ∧ opn T p ≤ 1 := by unfold opn; split <;> omega
theorem cpF_hold {mu : Mem} {r : Nat} : trT (cpF mu (r + 1) (r + 3) 1639) r = trT mu r := by
  funext w i
  unfold trT
  rw [cpF_off (by omega), cpF_off (by omega), cpF_off (by omega)]
theorem ptu_rr {mu T : Mem} {r : Nat} {j v w : Int} : up (ptT (up mu r j v) r T) r j w = ptT (up mu r j w) r T := by
  rw [ptu_r]
  congr 1
  funext a i
  unfold up
  split <;> rfl
theorem brP_pt {mu T : Mem} {r : Nat} {o : Int} (ho : 355 ≤ o) : brP (ptT mu r T) r o 320 = ptT mu r (trO mu r (o + 1)) := by
  rw [← brP_all]
  funext a i
  unfold brP
  by_cases h : a = r + 1 ∧ 35 ≤ i ∧ i < 35 + 320
  · rw [if_pos h, if_pos h, pt_lo (by omega)]
  · rw [if_neg h, if_neg h]
    unfold ptT
    rw [if_neg (by omega)]
section M4
variable {G : Gx} {l : Launch} {S : Sh} {n : Nat} {mu T : Mem} {la : Lam} {r : Nat}
def shP (mu : Mem) (r : Nat) (j : Int) : Mem := fun a i => if a = r + 2 ∧ 0 ≤ i ∧ i < j then mu (r + 2) (i + 1639) else mu a i
def pcP (mu : Mem) (r : Nat) (q j : Int) : Mem := fun a i => if a = r + 2 ∧ 1639 * q ≤ i ∧ i < 1639 * q + j then mu (r + 3) (i - 1639 * q) else mu a i
def en1 (mu : Mem) (r : Nat) : Mem := if mu r 4 = 4 then up (shP mu r 4917) r 4 (4 - 1) else mu
def en2 (mu : Mem) (r : Nat) : Mem := up (up (pcP mu r (mu r 4) 1639) r 4 (mu r 4 + 1)) r 7 0
def enM (mu : Mem) (r : Nat) : Mem := en2 (en1 mu r) r
theorem shP_0 (mu : Mem) (r : Nat) : shP mu r 0 = mu := by funext a i; unfold shP; rw [if_neg (by omega)]
theorem pcP_0 (mu : Mem) (r : Nat) (q : Int) : pcP mu r q 0 = mu := by funext a i; unfold pcP; rw [if_neg (by omega)]
theorem shP_s {mu : Mem} {r : Nat} {j : Int} (hj : 0 ≤ j) : up (shP mu r j) (r + 2) j (mu (r + 2) (j + 1639)) = shP mu r (j + 1) := by
  funext a i
  unfold up shP
  try dsimp only
  by_cases h : a = r + 2 ∧ i = j
  · rw [if_pos h, if_pos (by omega), h.2]
  · rw [if_neg h]
    by_cases h2 : a = r + 2 ∧ 0 ≤ i ∧ i < j
    · rw [if_pos h2, if_pos (by omega)]
    · rw [if_neg h2, if_neg (by omega)]
theorem pcP_s {mu : Mem} {r : Nat} {q j : Int} (hj : 0 ≤ j) : up (pcP mu r q j) (r + 2) (1639 * q + j) (mu (r + 3) j) = pcP mu r q (j + 1) := by
  funext a i
  unfold up pcP
  try dsimp only
  by_cases h : a = r + 2 ∧ i = 1639 * q + j
  · rw [if_pos h, if_pos (by omega), show i - 1639 * q = j by omega]
  · rw [if_neg h]
    by_cases h2 : a = r + 2 ∧ 1639 * q ≤ i ∧ i < 1639 * q + j
    · rw [if_pos h2, if_pos (by omega)]
    · rw [if_neg h2, if_neg (by omega)]
theorem pcP_r {mu : Mem} {r : Nat} {q j i : Int} : pcP mu r q j r i = mu r i := by unfold pcP; rw [if_neg (by omega)]
theorem shP_r {mu : Mem} {r : Nat} {j i : Int} : shP mu r j r i = mu r i := by unfold shP; rw [if_neg (by omega)]
def dnM (mu : Mem) (r : Nat) (k : Int) : Mem := if 0 < k then up mu r 7 k else enM mu r
def dnA (mu : Mem) (r : Nat) (k : Int) : Int := if 0 < k then 0 else mu r 19
end M4
