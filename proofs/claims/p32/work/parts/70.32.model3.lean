/-! THE REFERENCE: commands -/
theorem knF_b (s : Int) : 2 ≤ knF s ∧ knF s ≤ 3 := by unfold knF; split <;> omega
def mcF (T : Mem) (P p t s : Int) : Int :=
  if ¬ (0 ≤ p ∧ p ≤ P - 1) ∨ ¬ (0 ≤ t ∧ t ≤ P - 1) then 1 else if p = t ∨ ¬ (0 ≤ s ∧ s ≤ 4) then 2 else if sxT T t = 0 ∨ (sxT T t = 2 ∧ s ≠ 4) then 3 else 0
def dk2 (T : Mem) (P p : Int) : Mem := nwT (tkT T P p) p 1
def ah2 (s : Int) : Int := if s % 2 = 0 then 1 else 0
def dkT (T : Mem) (P p t s : Int) : Mem :=
  if s = 4 then up (up (up (tkT T P p) 9 p (tkT T P p 9 t)) 10 p (tbT (tkT T P p) P (tkT T P p 9 t))) 4 (tkT T P p 9 t) p else
    if dk2 T P p 1 (tkT T P p 9 t) ≠ -1 ∧ dk2 T P p 0 (dk2 T P p 1 (tkT T P p 9 t)) = knF s then
      ciT (dk2 T P p) (dk2 T P p 1 (tkT T P p 9 t)) (frT (tkT T P p)) (dk2 T P p 2 (tkT T P p 9 t) + (if ah2 s = 0 then 1 else 0)) (dk2 T P p 3 (tkT T P p 9 t))
    else prT (dk2 T P p) (tkT T P p 9 t) (frT (tkT T P p)) (knF s) (ah2 s)
def dkA (T : Mem) (P p t s : Int) : Int := if s = 4 then tbT (tkT T P p) P (tkT T P p 9 t) + 1 else 1
def okD (T : Mem) (P p t s : Int) : Prop := okT T P p ∧ 0 ≤ tkT T P p 9 t ∧ (s ≠ 4 → frT (tkT T P p) ≠ -1 ∧ (¬ (dk2 T P p 1 (tkT T P p 9 t) ≠ -1 ∧ dk2 T P p 0 (dk2 T P p 1 (tkT T P p 9 t)) = knF s) → frT (dk2 T P p) ≠ -1))
def egC (T : Mem) (P p s : Int) : Mem :=
  if rtT (tkT T P p) ≠ -1 ∧ dk2 T P p 0 (rtT (tkT T P p)) = knF s then
    ciT (dk2 T P p) (rtT (tkT T P p)) (frT (tkT T P p)) (if ah2 s = 0 then kdT (dk2 T P p) (rtT (tkT T P p)) else 0) (dk2 T P p 3 (chT (dk2 T P p) (rtT (tkT T P p)) (if ah2 s = 0 then kdT (dk2 T P p) (rtT (tkT T P p)) - 1 else 0)))
  else if rtT (tkT T P p) ≠ -1 then prT (dk2 T P p) (rtT (tkT T P p)) (frT (tkT T P p)) (knF s) (ah2 s) else dk2 T P p
def okE (T : Mem) (P p s : Int) : Prop := okT T P p ∧ frT (tkT T P p) ≠ -1 ∧
  (rtT (tkT T P p) ≠ -1 ∧ dk2 T P p 0 (rtT (tkT T P p)) = knF s → 0 ≤ chT (dk2 T P p) (rtT (tkT T P p)) (if ah2 s = 0 then kdT (dk2 T P p) (rtT (tkT T P p)) - 1 else 0)) ∧
  (¬ (rtT (tkT T P p) ≠ -1 ∧ dk2 T P p 0 (rtT (tkT T P p)) = knF s) → rtT (tkT T P p) ≠ -1 → frT (dk2 T P p) ≠ -1)
def flT (T : Mem) (P p x y w h : Int) : Mem :=
  up (up (up (up (up (nwT (tkT T P p) p 4) 2 (frT (tkT T P p)) (ctT (tkT T P p) 4 + 1 - 1)) 5 (frT (tkT T P p)) x) 6 (frT (tkT T P p)) y) 7 (frT (tkT T P p)) w) 8 (frT (tkT T P p)) h
def okF (T : Mem) (P p : Int) : Prop := okT T P p ∧ frT (tkT T P p) ≠ -1
def trO (mu : Mem) (r : Nat) (o : Int) : Mem := fun w i => if w ≤ 8 then mu (r + 1) (o + 9 * i + w) else if w = 9 then mu (r + 1) (o + 288 + 2 * i) else mu (r + 1) (o + 288 + 2 * i + 1)
def svP (mu : Mem) (r : Nat) (o j : Int) : Mem := fun a i => if a = r + 1 ∧ o < i ∧ i ≤ o + j then mu (r + 1) (i - o - 1 + 35) else mu a i
def brP (mu : Mem) (r : Nat) (o j : Int) : Mem := fun a i => if a = r + 1 ∧ 35 ≤ i ∧ i < 35 + j then mu (r + 1) (o + 1 + (i - 35)) else mu a i
def opn (T : Mem) (p : Int) : Int := if T 9 p = -1 then 0 else 1
theorem brP_all (mu : Mem) (r : Nat) (o : Int) : brP mu r o 320 = ptT mu r (trO mu r (o + 1)) := by
  funext a j
  unfold brP ptT trO
  by_cases h : a = r + 1 ∧ 35 ≤ j ∧ j < 355
  · rw [if_pos (by omega), if_pos h]
    by_cases h3 : j < 323
    · rw [if_pos h3, if_pos (by omega)]
      congr 1
      omega
    · rw [if_neg h3]
      by_cases h4 : (j - 323) % 2 = 0
      · rw [if_pos h4, if_neg (by omega), if_pos rfl]
        congr 1
        omega
      · rw [if_neg h4, if_neg (by omega), if_neg (by omega)]
        congr 1
        omega
  · rw [if_neg (by omega), if_neg h]
theorem svP_0 (mu : Mem) (r : Nat) (o : Int) : svP mu r o 0 = mu := by funext a i; unfold svP; rw [if_neg (by omega)]
theorem brP_0 (mu : Mem) (r : Nat) (o : Int) : brP mu r o 0 = mu := by funext a i; unfold brP; rw [if_neg (by omega)]
theorem svP_s {mu : Mem} {r : Nat} {o j : Int} (hj : 0 ≤ j) : up (svP mu r o j) (r + 1) (o + 1 + j) (mu (r + 1) (35 + j)) = svP mu r o (j + 1) := by
  funext a i
  unfold up svP
  try dsimp only
  by_cases h : a = r + 1 ∧ i = o + 1 + j
  · rw [if_pos h, if_pos (by omega), show i - o - 1 + 35 = 35 + j by omega]
  · rw [if_neg h]
    by_cases h2 : a = r + 1 ∧ o < i ∧ i ≤ o + j
    · rw [if_pos h2, if_pos (by omega)]
    · rw [if_neg h2, if_neg (by omega)]
theorem brP_s {mu : Mem} {r : Nat} {o j : Int} (hj : 0 ≤ j) : up (brP mu r o j) (r + 1) (35 + j) (mu (r + 1) (o + 1 + j)) = brP mu r o (j + 1) := by
  funext a i
  unfold up brP
  try dsimp only
  by_cases h : a = r + 1 ∧ i = 35 + j
  · rw [if_pos h, if_pos (by omega), show o + 1 + (i - 35) = o + 1 + j by omega]
  · rw [if_neg h]
    by_cases h2 : a = r + 1 ∧ 35 ≤ i ∧ i < 35 + j
    · rw [if_pos h2, if_pos (by omega)]
    · rw [if_neg h2, if_neg (by omega)]
theorem TB_dk2 {N : Int} {T : Mem} (h : TB N T) (hN : 100 ≤ N) {P : Int} (hP : 0 ≤ P ∧ P ≤ 16) {p : Int} (hp : 0 ≤ p ∧ p < 16) (hf : frT (tkT T P p) ≠ -1) : TB (N + 2) (dk2 T P p) :=
  nwT_TB (tkT_TB h hN hP hp) (by omega) hf hp (by decide)
section M3
variable {G : Gx} {l : Launch} {S : Sh} {n : Nat} {mu T : Mem} {la : Lam} {r : Nat}
def adF (P w h : Int) : Int := if ¬ (1 ≤ w ∧ w ≤ 60) ∨ ¬ (1 ≤ h ∧ h ≤ 60) then 1 else if P = 16 then 2 else 0
def adB (mu : Mem) (r : Nat) (w h : Int) : Mem := up (up (up (up mu r 19 (mu (r + 1) 2)) (r + 1) (3 + 2 * mu (r + 1) 2) w) (r + 1) (3 + 2 * mu (r + 1) 2 + 1) h) (r + 1) 2 (mu (r + 1) 2 + 1)
def adM (mu : Mem) (r : Nat) (T : Mem) (w h : Int) : Mem := ptT (adB mu r w h) r (up (up T 9 (mu (r + 1) 2) (-1)) 10 (mu (r + 1) 2) 0)
def clF (P p : Int) : Int := if 0 ≤ p ∧ p ≤ P - 1 then 0 else 1
end M3
