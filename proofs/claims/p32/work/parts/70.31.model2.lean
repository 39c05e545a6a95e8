/-! THE REFERENCE: what changes the tree -/
def flI (T : Mem) (x : Int) : Int := if T 0 x = 4 then 1 else 0
def bsI (T : Mem) (fl pa o : Int) : Int := if (fl = 1 ∧ T 0 o = 4) ∨ (fl = 0 ∧ (1 ≤ T 0 o ∧ T 0 o ≤ 3) ∧ pa ≠ -1 ∧ T 1 o = pa) then 1 else 0
def ngP (T : Mem) (fl pa ps j : Int) : Mem := fun w o => if w = 2 ∧ 0 ≤ o ∧ o < j ∧ bsI T fl pa o = 1 ∧ ps < T 2 o then T 2 o - 1 else T w o
def ngA (T : Mem) (x : Int) : Mem := ngP (up T 0 x 0) (flI T x) (T 1 x) (T 2 x) 32
def rjA (T : Mem) (pa c : Int) : Mem := up T 1 c (T 1 pa)
def rjB (T : Mem) (pa c : Int) : Mem := up (rjA T pa c) 2 c (rjA T pa c 2 pa)
def rjC (T : Mem) (pa c : Int) : Mem := up (rjB T pa c) 3 c (rjB T pa c 3 pa)
def rjT (T : Mem) (pa c : Int) : Mem := up (rjC T pa c) 0 pa 0
def ngT (T : Mem) (x : Int) : Mem := if flI T x = 0 ∧ T 1 x ≠ -1 ∧ kdT (ngA T x) (T 1 x) = 1 then rjT (ngA T x) (T 1 x) (chT (ngA T x) (T 1 x) 0) else ngA T x
def okN (T : Mem) (x : Int) : Prop := flI T x = 0 ∧ T 1 x ≠ -1 ∧ kdT (ngA T x) (T 1 x) = 1 → 0 ≤ chT (ngA T x) (T 1 x) 0
def tkP (T : Mem) (g ps j : Int) : Mem := fun w o => if w = 10 ∧ 0 ≤ o ∧ o < j ∧ T 9 o = g ∧ ps < T 10 o then T 10 o - 1 else T w o
def tkA (T : Mem) (P p : Int) : Mem := tkP (up (up T 9 p (-1)) 10 p 0) (T 9 p) (T 10 p) P
def tkT (T : Mem) (P p : Int) : Mem :=
  if T 9 p = -1 then T else if tbT (tkA T P p) P (T 9 p) = 0 then ngT (tkA T P p) (T 9 p) else
    if tkA T P p 4 (T 9 p) = p then up (tkA T P p) 4 (T 9 p) (toT (tkA T P p) P (T 9 p) (if T 10 p < tbT (tkA T P p) P (T 9 p) then T 10 p else tbT (tkA T P p) P (T 9 p) - 1)) else tkA T P p
def okT (T : Mem) (P p : Int) : Prop := T 9 p ≠ -1 → tbT (tkA T P p) P (T 9 p) = 0 → okN (tkA T P p) (T 9 p)
def nwT (T : Mem) (p k : Int) : Mem := up (up (up (up (up (up (clT T (frT T) 9) 0 (frT T) k) 1 (frT T) (-1)) 3 (frT T) 1) 4 (frT T) p) 9 p (frT T)) 10 p 0
def ciP (T : Mem) (h g ps j : Int) : Mem := fun w o => if w = 2 ∧ 0 ≤ o ∧ o < j ∧ (1 ≤ T 0 o ∧ T 0 o ≤ 3) ∧ o ≠ g ∧ T 1 o = h ∧ ps ≤ T 2 o then T 2 o + 1 else T w o
def ciT (T : Mem) (h g ps wt : Int) : Mem := up (up (up (ciP T h g ps 32) 1 g h) 2 g ps) 3 g wt
def pr0 (T : Mem) (k : Int) : Mem := up (clT T (frT T) 9) 0 (frT T) k
def pr1 (T : Mem) (x k : Int) : Mem := up (pr0 T k) 1 (frT T) (pr0 T k 1 x)
def pr2 (T : Mem) (x k : Int) : Mem := up (pr1 T x k) 2 (frT T) (pr1 T x k 2 x)
def pr3 (T : Mem) (x k : Int) : Mem := up (pr2 T x k) 3 (frT T) (pr2 T x k 3 x)
def prT (T : Mem) (x g k ah : Int) : Mem := up (up (up (up (up (up (pr3 T x k) 1 x (frT T)) 2 x (if ah = 0 then 0 else 1)) 3 x 1) 1 g (frT T)) 2 g (if ah = 0 then 1 else 0)) 3 g 1
theorem ngP_0 (T : Mem) (fl pa ps : Int) : ngP T fl pa ps 0 = T := by funext w o; unfold ngP; rw [if_neg (by omega)]
theorem tkP_0 (T : Mem) (g ps : Int) : tkP T g ps 0 = T := by funext w o; unfold tkP; rw [if_neg (by omega)]
theorem ciP_0 (T : Mem) (h g ps : Int) : ciP T h g ps 0 = T := by funext w o; unfold ciP; rw [if_neg (by omega)]
theorem ngP_k (T : Mem) (fl pa ps j o : Int) {w : Nat} (hw : w ≠ 2) : ngP T fl pa ps j w o = T w o := by unfold ngP; rw [if_neg (by omega)]
theorem tkP_k (T : Mem) (g ps j o : Int) {w : Nat} (hw : w ≠ 10) : tkP T g ps j w o = T w o := by unfold tkP; rw [if_neg (by omega)]
theorem ciP_k (T : Mem) (h g ps j o : Int) {w : Nat} (hw : w ≠ 2) : ciP T h g ps j w o = T w o := by unfold ciP; rw [if_neg (by omega)]
theorem ngP_hi (T : Mem) (fl pa ps j o : Int) (ho : j ≤ o) (w : Nat) : ngP T fl pa ps j w o = T w o := by unfold ngP; rw [if_neg (by omega)]
theorem tkP_hi (T : Mem) (g ps j o : Int) (ho : j ≤ o) (w : Nat) : tkP T g ps j w o = T w o := by unfold tkP; rw [if_neg (by omega)]
theorem ciP_hi (T : Mem) (h g ps j o : Int) (ho : j ≤ o) (w : Nat) : ciP T h g ps j w o = T w o := by unfold ciP; rw [if_neg (by omega)]
theorem ngP_no {T : Mem} {fl pa ps j : Int} (h : ¬ (bsI T fl pa j = 1 ∧ ps < T 2 j)) : ngP T fl pa ps (j + 1) = ngP T fl pa ps j := by
  funext w o
  unfold ngP
  by_cases ho : o = j
  · subst ho; rw [if_neg (by omega), if_neg (by omega)]
  · by_cases c : w = 2 ∧ 0 ≤ o ∧ o < j ∧ bsI T fl pa o = 1 ∧ ps < T 2 o
    · rw [if_pos c, if_pos (by omega)]
    · rw [if_neg c, if_neg (by omega)]
theorem ngP_yes {T : Mem} {fl pa ps j : Int} (hj : 0 ≤ j) (h1 : bsI T fl pa j = 1) (h2 : ps < T 2 j) : up (ngP T fl pa ps j) 2 j (T 2 j - 1) = ngP T fl pa ps (j + 1) := by
  funext w o
  unfold up ngP
  try dsimp only
  by_cases ho : w = 2 ∧ o = j
  · rw [if_pos ho, ho.2, if_pos (by omega)]
  · rw [if_neg ho]
    by_cases c : w = 2 ∧ 0 ≤ o ∧ o < j ∧ bsI T fl pa o = 1 ∧ ps < T 2 o
    · rw [if_pos c, if_pos (by omega)]
    · rw [if_neg c, if_neg (by omega)]
theorem tkP_no {T : Mem} {g ps j : Int} (h : ¬ (T 9 j = g ∧ ps < T 10 j)) : up (tkP T g ps j) 10 j (T 10 j - 0) = tkP T g ps (j + 1) := by
  funext w o
  unfold up tkP
  try dsimp only
  by_cases ho : w = 10 ∧ o = j
  · rw [if_pos ho, ho.1, ho.2, if_neg (by omega)]; omega
  · rw [if_neg ho]
    by_cases c : w = 10 ∧ 0 ≤ o ∧ o < j ∧ T 9 o = g ∧ ps < T 10 o
    · rw [if_pos c, if_pos (by omega)]
    · rw [if_neg c, if_neg (by omega)]
theorem tkP_yes {T : Mem} {g ps j : Int} (hj : 0 ≤ j) (h1 : T 9 j = g) (h2 : ps < T 10 j) : up (tkP T g ps j) 10 j (T 10 j - 1) = tkP T g ps (j + 1) := by
  funext w o
  unfold up tkP
  try dsimp only
  by_cases ho : w = 10 ∧ o = j
  · rw [if_pos ho, ho.2, if_pos (by omega)]
  · rw [if_neg ho]
    by_cases c : w = 10 ∧ 0 ≤ o ∧ o < j ∧ T 9 o = g ∧ ps < T 10 o
    · rw [if_pos c, if_pos (by omega)]
    · rw [if_neg c, if_neg (by omega)]
theorem ciP_no {T : Mem} {h g ps j : Int} (hn : ¬ ((1 ≤ T 0 j ∧ T 0 j ≤ 3) ∧ j ≠ g ∧ T 1 j = h ∧ ps ≤ T 2 j)) : ciP T h g ps (j + 1) = ciP T h g ps j := by
  funext w o
  unfold ciP
  by_cases ho : o = j
  · subst ho; rw [if_neg (by omega), if_neg (by omega)]
  · by_cases c : w = 2 ∧ 0 ≤ o ∧ o < j ∧ (1 ≤ T 0 o ∧ T 0 o ≤ 3) ∧ o ≠ g ∧ T 1 o = h ∧ ps ≤ T 2 o
    · rw [if_pos c, if_pos (by omega)]
    · rw [if_neg c, if_neg (by omega)]
theorem ciP_yes {T : Mem} {h g ps j : Int} (hj : 0 ≤ j) (hn : (1 ≤ T 0 j ∧ T 0 j ≤ 3) ∧ j ≠ g ∧ T 1 j = h ∧ ps ≤ T 2 j) : up (ciP T h g ps j) 2 j (T 2 j + 1) = ciP T h g ps (j + 1) := by
  funext w o
  unfold up ciP
  try dsimp only
  by_cases ho : w = 2 ∧ o = j
  · rw [if_pos ho, ho.2, if_pos (by omega)]
  · rw [if_neg ho]
    by_cases c : w = 2 ∧ 0 ≤ o ∧ o < j ∧ (1 ≤ T 0 o ∧ T 0 o ≤ 3) ∧ o ≠ g ∧ T 1 o = h ∧ ps ≤ T 2 o
    · rw [if_pos c, if_pos (by omega)]
    · rw [if_neg c, if_neg (by omega)]
theorem ngP_TB {N : Int} {T : Mem} (h : TB N T) (fl pa ps j : Int) : TB (N + 1) (ngP T fl pa ps j) := by
  refine ⟨fun w i hi => ?_, fun i hi => ?_, fun i hi => ?_⟩
  · unfold ngP
    split
    · rename_i z
      have := h.1 2 i (by rw [← z.1]; exact hi)
      omega
    · have := h.1 w i hi
      omega
  · rw [ngP_k _ _ _ _ _ _ (by decide)]; exact h.2.1 i hi
  · rw [ngP_k _ _ _ _ _ _ (by decide)]; exact h.2.2 i hi
theorem tkP_TB {N : Int} {T : Mem} (h : TB N T) (g ps j : Int) : TB (N + 1) (tkP T g ps j) := by
  refine ⟨fun w i hi => ?_, fun i hi => ?_, fun i hi => ?_⟩
  · unfold tkP
    split
    · rename_i z
      have := h.1 10 i (by rw [← z.1]; exact hi)
      omega
    · have := h.1 w i hi
      omega
  · rw [tkP_k _ _ _ _ _ (by decide)]; exact h.2.1 i hi
  · rw [tkP_k _ _ _ _ _ (by decide)]; exact h.2.2 i hi
theorem ciP_TB {N : Int} {T : Mem} (h : TB N T) (a g ps j : Int) : TB (N + 1) (ciP T a g ps j) := by
  refine ⟨fun w i hi => ?_, fun i hi => ?_, fun i hi => ?_⟩
  · unfold ciP
    split
    · rename_i z
      have := h.1 2 i (by rw [← z.1]; exact hi)
      omega
    · have := h.1 w i hi
      omega
  · rw [ciP_k _ _ _ _ _ _ (by decide)]; exact h.2.1 i hi
  · rw [ciP_k _ _ _ _ _ _ (by decide)]; exact h.2.2 i hi
theorem clT_TB {N : Int} {T : Mem} (h : TB N T) (hN : 100 ≤ N) (x : Int) : ∀ w, TB N (clT T x w)
  | 0 => h
  | w + 1 => (clT_TB h hN x w).upd _ _ (by omega) (by omega) (by omega)
theorem ngA_TB {N : Int} {T : Mem} (h : TB N T) (hN : 100 ≤ N) (x : Int) : TB (N + 1) (ngA T x) := ngP_TB (h.upd _ _ (by omega) (by omega) (by omega)) _ _ _ _
theorem ngT_TB {N : Int} {T : Mem} (h : TB N T) (hN : 100 ≤ N) {x : Int} (hx : 0 ≤ x ∧ x < 32) : TB (N + 1) (ngT T x) := by
  have b1 := h.p hx
  have h1 := ngA_TB h hN x
  unfold ngT
  split
  · rename_i z
    have q1 : TB (N + 1) (rjA (ngA T x) (T 1 x) (chT (ngA T x) (T 1 x) 0)) := by
      have b2 := h1.p (i := T 1 x) (by omega)
      exact h1.upd _ _ (by omega) (by omega) (by omega)
    have q2 : TB (N + 1) (rjB (ngA T x) (T 1 x) (chT (ngA T x) (T 1 x) 0)) := q1.upd _ _ (q1.n 2 (by decide) (by omega)) (by omega) (by omega)
    have q3 : TB (N + 1) (rjC (ngA T x) (T 1 x) (chT (ngA T x) (T 1 x) 0)) := q2.upd _ _ (q2.n 3 (by decide) (by omega)) (by omega) (by omega)
    exact q3.upd _ _ (by omega) (by omega) (by omega)
  · exact h1
theorem tkA_TB {N : Int} {T : Mem} (h : TB N T) (hN : 100 ≤ N) (P p : Int) : TB (N + 1) (tkA T P p) := tkP_TB ((h.upd _ _ (by omega) (by omega) (by omega)).upd _ _ (by omega) (by omega) (by omega)) _ _ _
theorem tkT_TB {N : Int} {T : Mem} (h : TB N T) (hN : 100 ≤ N) {P : Int} (hP : 0 ≤ P ∧ P ≤ 16) {p : Int} (hp : 0 ≤ p ∧ p < 16) : TB (N + 2) (tkT T P p) := by
  have b1 := h.g hp
  have h1 := tkA_TB h hN P p
  unfold tkT
  split
  · exact h.mono (by omega)
  · split
    · exact (ngT_TB h1 (by omega) (by omega)).mono (by omega)
    · split
      · have b2 := toT_b (tkA T P p) hP (T 9 p) (if T 10 p < tbT (tkA T P p) P (T 9 p) then T 10 p else tbT (tkA T P p) P (T 9 p) - 1)
        exact (h1.mono (show N + 1 ≤ N + 2 by omega)).upd _ _ (by omega) (by omega) (by omega)
      · exact h1.mono (by omega)
theorem nwT_TB {N : Int} {T : Mem} (h : TB N T) (hN : 100 ≤ N) (hf : frT T ≠ -1) {p k : Int} (hp : 0 ≤ p ∧ p < 16) (hk : 0 ≤ k ∧ k ≤ 4) : TB N (nwT T p k) := by
  have bf := fmG_b (ind T 0 0) 32 32 (by decide)
  have bf : -1 ≤ frT T ∧ frT T < 32 := bf
  exact (((((((clT_TB h hN (frT T) 9).upd _ _ (by omega) (by omega) (by omega)).upd _ _ (by omega) (by omega) (by omega)).upd _ _ (by omega) (by omega) (by omega)).upd _ _ (by omega) (by omega) (by omega)).upd _ _ (by omega) (by omega) (by omega)).upd _ _ (by omega) (by omega) (by omega))
theorem ciT_TB {N : Int} {T : Mem} (h : TB N T) (hN : 100 ≤ N) {a g ps wt : Int} (ha : 0 ≤ a ∧ a < 32) (hps : -N ≤ ps ∧ ps ≤ N + 1) (hw : -N ≤ wt ∧ wt ≤ N) : TB (N + 1) (ciT T a g ps wt) :=
  (((ciP_TB h a g ps 32).upd _ _ (by omega) (by omega) (by omega)).upd _ _ (by omega) (by omega) (by omega)).upd _ _ (by omega) (by omega) (by omega)
theorem frT_b (T : Mem) : -1 ≤ frT T ∧ frT T < 32 := fmG_b (ind T 0 0) 32 32 (by decide)
theorem pr0_TB {N : Int} {T : Mem} (h : TB N T) (hN : 100 ≤ N) {k : Int} (hk : 0 ≤ k ∧ k ≤ 4) : TB N (pr0 T k) := (clT_TB h hN (frT T) 9).upd _ _ (by omega) (by omega) (by omega)
theorem pr3_TB {N : Int} {T : Mem} (h : TB N T) (hN : 100 ≤ N) {x k : Int} (hx : 0 ≤ x ∧ x < 32) (hk : 0 ≤ k ∧ k ≤ 4) : TB N (pr1 T x k) ∧ TB N (pr2 T x k) ∧ TB N (pr3 T x k) := by
  have q0 := pr0_TB h hN hk
  have q1 : TB N (pr1 T x k) := by
    have b2 := q0.p hx
    exact q0.upd _ _ (by omega) (by omega) (by omega)
  have q2 : TB N (pr2 T x k) := q1.upd _ _ (q1.n 2 (by decide) hx) (by omega) (by omega)
  have q3 : TB N (pr3 T x k) := q2.upd _ _ (q2.n 3 (by decide) hx) (by omega) (by omega)
  exact ⟨q1, q2, q3⟩
theorem prT_TB {N : Int} {T : Mem} (h : TB N T) (hN : 100 ≤ N) (hf : frT T ≠ -1) {x g k ah : Int} (hx : 0 ≤ x ∧ x < 32) (hk : 0 ≤ k ∧ k ≤ 4) : TB N (prT T x g k ah) := by
  have bf := frT_b T
  have q3 := (pr3_TB h hN hx hk).2.2
  exact (((((q3.upd _ _ (by omega) (by omega) (by omega)).upd _ _ (by split <;> omega) (by omega) (by omega)).upd _ _ (by omega) (by omega) (by omega)).upd _ _ (by omega) (by omega) (by omega)).upd _ _ (by split <;> omega) (by omega) (by omega)).upd _ _ (by omega) (by omega) (by omega)
section M2
variable {G : Gx} {l : Launch} {S : Sh} {n : Nat} {mu T : Mem} {la : Lam} {r : Nat}
def knF (s : Int) : Int := if s < 2 then 2 else 3
end M2
