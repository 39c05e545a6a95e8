/-! THE REFERENCE: what changes the tree -/
def flI (T : Mem) (x : Int) : Int := if T 0 x = 4 then 1 else 0
def bsI (T : Mem) (fl pa o : Int) : Int := if (fl = 1 ∧ T 0 o = 4) ∨ (fl = 0 ∧ (1 ≤ T 0 o ∧ T 0 o ≤ 3) ∧ pa ≠ -1 ∧ T 1 o = pa) then 1 else 0
def ngP (T : Mem) (fl pa ps j : Int) : Mem := fun w o => if w = 2 ∧ 0 ≤ o ∧ o < j ∧ bsI T fl pa o = 1 ∧ ps < T 2 o then T 2 o - 1 else T w o
def ngA (T : Mem) (x : Int) : Mem := ngP (up T 0 x 0) (flI T x) (T 1 x) (T 2 x) 32
def rjA (T : Mem) (pa c : Int) : Mem := up T 1 c (T 1 pa)
def rjB (T : Mem) (pa c : Int) : Mem := up (rjA T pa c) 2 c (rjA T pa c 2 pa)
def rjC (T : Mem) (pa c : Int) : Mem := up (rjB T pa c) 3 c (rjB T pa c 3 pa)
def rjT (T : Mem) (pa c : Int) : Mem := up (rjC T pa c) 0 pa 0
def ngT (T : Mem) (x : Int) : Mem := if flI T x = 0 ∧ T 1 x ≠ -1 ∧ kdT (ngA T x) (T 1 x) = 1 then rjT (ngA T x) (T 1 x) (chT (ngA T x) (T 1 x) 0) else ngA T x
def okN (T : Mem) (x : Int) : Prop := flI T x = 0 ∧ T 1 x ≠ -1 ∧ kdT (ngA T x) (T 1 x) = 1 → 0 ≤ chT (ngA T x) (T 1 x) 0
def tkP (T : Mem) (g ps j : Int) : Mem := fun w o => if w = 10 ∧ 0 ≤ o ∧ o < j ∧ T 9 o = g ∧ ps < T 10 o then T 10 o - 1 else T w o
def tkA (T : Mem) (P p : Int) : Mem := tkP (up (up T 9 p (-1)) 10 p 0) (T 9 p) (T 10 p) P
def tkT (T : Mem) (P p : Int) : Mem :=
  if T 9 p = -1 then T else if tbT (tkA T P p) P (T 9 p) = 0 then ngT (tkA T P p) (T 9 p) else
    if tkA T P p 4 (T 9 p) = p then up (tkA T P p) 4 (T 9 p) (toT (tkA T P p) P (T 9 p) (if T 10 p < tbT (tkA T P p) P (T 9 p) then T 10 p else tbT (tkA T P p) P (T 9 p) - 1)) else tkA T P p
def okT (T : Mem) (P p : Int) : Prop := T 9 p ≠ -1 → tbT (tkA T P p) P (T 9 p) = 0 → okN (tkA T P p) (T 9 p)
def nwT (T : Mem) (p k : Int) : Mem := up (up (up (up (up (up (clT T (frT T) 9) 0 (frT T) k) 1 (frT T) (-1)) 3 (frT T) 1) 4 (frT T) p) 9 p (frT T)) 10 p 0
def ciP (T : Mem) (h g ps j : Int) : Mem := fun w o => if w = 2 ∧ 0 ≤ o ∧ o < j ∧ (1 ≤ T 0 o ∧ T 0 o ≤ 3) ∧ o ≠ g ∧ T 1 o = h ∧ ps ≤ T 2 o then T 2 o + 1 else T w o
def ciT (T : Mem) (h g ps wt : Int) : Mem := up (up (up (ciP T h g ps 32) 1 g h) 2 g ps) 3 g wt
def pr0 (T : Mem) (k : Int) : Mem := up (clT T (frT T) 9) 0 (frT T) k
def pr1 (T : Mem) (x k : Int) : Mem := up (pr0 T k) 1 (frT T) (pr0 T k 1 x)
def pr2 (T : Mem) (x k : Int) : Mem := up (pr1 T x k) 2 (frT T) (pr1 T x k 2 x)
def pr3 (T : Mem) (x k : Int) : Mem := up (pr2 T x k) 3 (frT T) (pr2 T x k 3 x)
def prT (T : Mem) (x g k ah : Int) : Mem := up (up (up (up (up (up (pr3 T x k) 1 x (frT T)) 2 x (if ah = 0 then 0 else 1)) 3 x 1) 1 g (frT T)) 2 g (if ah = 0 then 1 else 0)) 3 g 1
theorem ngP_0 (T : Mem) (fl pa ps : Int) : ngP T fl pa ps 0 = T := by funext w o; unfold ngP; rw [if_neg (by omega)]
theorem tkP_0 (T : Mem) (g ps : Int) : tkP T g ps 0 = T := by funext w o; unfold tkP; rw [if_neg (by omega)]
theorem ciP_0 (T : Mem) (h g ps : Int) : ciP T h g ps 0 = T := by funext w o; unfold ciP; rw [if_neg (by omega)]
theorem ngP_k (T : Mem) (fl pa ps j o : Int) {w : Nat} (hw : w ≠ 2) : ngP T fl pa ps j w o = T w o := by unfold ngP; rw [if_neg (by omega)]
theorem tkP_k (T : Mem) (g ps j o : Int) {w : Nat} (hw : w ≠ 10) : tkP T g ps j w o = T w o := by unfold tkP; rw [if_neg (by omega)]
theorem ciP_k (T : Mem) (h g ps j o : Int) {w : Nat} (hw : w ≠ 2) : ciP T h g ps j w o = T w o := by unfold ciP; rw [if_neg (by omega)]
theorem ngP_hi (T : Mem) (fl pa ps j o : Int) (ho : j ≤ o) (w : Nat) : ngP T fl pa ps j w o = T w o := by unfold ngP; rw [if_neg (by omega)]
theorem tkP_hi (T : Mem) (g ps j o : Int) (ho : j ≤ o) (w : Nat) : tkP T g ps j w o = T w o := by unfold tkP; rw [if_neg (by omega)]
theorem ciP_hi (T : Mem) (h g ps j o : Int) (ho : j ≤ o) (w : Nat) : ciP T h g ps j w o = T w o := by unfold ciP; rw [if_neg (by omega)]
theorem ngP_no {T : Mem} {fl pa ps j : Int} (h : ¬ (bsI T fl pa j = 1 ∧ ps < T 2 j)) : ngP T fl pa ps (j + 1) = ngP T fl pa ps j := by
  funext w o
  unfold ngP
  by_cases ho : o = j
  · subst ho; rw [if_neg (by omega), if_neg (by omega)]
  · by_cases c : w = 2 ∧ 0 ≤ o ∧ o < j ∧ bsI T fl pa o = 1 ∧ ps < T 2 o
    · rw [if_pos c, if_pos (by omega)]
    · rw [if_neg c, if_neg (by omega)]
theorem ngP_yes {T : Mem} {fl pa ps j : Int} (hj : 0 ≤ j) (h1 : bsI T fl pa j = 1) (h2 : ps < T 2 j) : up (ngP T fl pa ps j) 2 j (T 2 j - 1) = ngP T fl pa ps (j + 1) := by
  funext w o
  unfold up ngP
  try dsimp only
  by_cases ho : w = 2 ∧ o = j
  · rw [if_pos ho, ho.2, if_pos (by omega)]
  · rw [if_neg ho]
    by_cases c : w = 2 ∧ 0 ≤ o ∧ o < j ∧ bsI T fl pa o = 1 ∧ ps < T 2 o
    · rw [if_pos c, if_pos (by omega)]
    · rw [if_neg c, if_neg (by omega)]
theorem tkP_no {T : Mem} {g ps j : Int} (h : ¬ (T 9 j = g ∧ ps < T 10 j)) : up (tkP T g ps j) 10 j (T 10 j - 0) = tkP T g ps (j + 1) := by
  funext w o
  unfold up tkP
  try dsimp only
  by_cases ho : w = 10 ∧ o = j
  · rw [if_pos ho, ho.1, ho.2, if_neg (by omega)]; omega
  · rw [if_neg ho]
    by_cases c : w = 10 ∧ 0 ≤ o ∧ o < j ∧ T 9 o = g ∧ ps < T 10 o
    · rw [if_pos c, if_pos (by omega)]
    · rw [if_neg c, if_neg (by omega)]
theorem tkP_yes {T : Mem} {g ps j : Int} (hj : 0 ≤ j) (h1 : T 9 j = g) (h2 : ps < T 10 j) : up (tkP T g ps j) 10 j (T 10 j - 1) = tkP T g ps (j + 1) := by
  funext w o
  unfold up tkP
  try dsimp only
  by_cases ho : w = 10 ∧ o = j
  · rw [if_pos ho, ho.2, if_pos (by omega)]
  · rw [if_neg ho]
    by_cases c : w = 10 ∧ 0 ≤ o ∧ o < j ∧ T 9 o = g ∧ ps < T 10 o
    · rw [if_pos c, if_pos (by omega)]
    · rw [if_neg c, if_neg (by omega)]
theorem ciP_no {T : Mem} {h g ps j : Int} (hn : ¬ ((1 ≤ T 0 j ∧ T 0 j ≤ 3) ∧ j ≠ g ∧ T 1 j = h ∧ ps ≤ T 2 j)) : ciP T h g ps (j + 1) = ciP T h g ps j := by
  funext w o
  unfold ciP
  by_cases ho : o = j
  · subst ho; rw [if_neg (by omega), if_neg (by omega)]
  · by_cases c : w = 2 ∧ 0 ≤ o ∧ o < j ∧ (1 ≤ T 0 o ∧ T 0 o ≤ 3) ∧ o ≠ g ∧ T 1 o = h ∧ ps ≤ T 2 o
    · rw [if_pos c, if_pos (by omega)]
    · rw [if_neg c, if_neg (by omega)]
theorem ciP_yes {T : Mem} {h g ps j : Int} (hj : 0 ≤ j) (hn : (1 ≤ T 0 j ∧ T 0 j ≤ 3) ∧ j ≠ g ∧ T 1 j = h ∧ ps ≤ T 2 j) : up (ciP T h g ps j) 2 j (T 2 j + 1) = ciP T h g ps (j + 1) := by
  funext w o
  unfold up ciP
  try dsimp only
  by_cases ho : w = 2 ∧ o = j
  · rw [if_pos ho, ho.2, if_pos (by omega)]
  · rw [if_neg ho]
    by_cases c : w = 2 ∧ 0 ≤ o ∧ o < j ∧ (1 ≤ T 0 o ∧ T 0 o ≤ 3) ∧ o ≠ g ∧ T 1 o = h ∧ ps ≤ T 2 o
    · rw [if_pos c, if_pos (by omega)]
    · rw [if_neg c, if_neg (by omega)]
theorem ngP_TB {N : Int} {T : Mem} (h : TB N T) (fl pa ps j : Int) : TB (N + 1) (ngP T fl pa ps j) := by
  refine ⟨fun w i hi => ?_, fun i hi => ?_, fun i hi => ?_⟩
  · unfold ngP
    split
    · rename_i z
      have := h.1 2 i (by rw [← z.1]; exact hi)
      omega
    · have := h.1 w i hi
      omega
  · rw [ngP_k _ _ _ _ _ _ (by decide)]; exact h.2.1 i hi
  · rw [ngP_k _ _ _ _ _ _ (by decide)]; exact h.2.2 i hi
theorem tkP_TB {N : Int} {T : Mem} (h : TB N T) (g ps j : Int) : TB (N + 1) (tkP T g ps j) := by
  refine ⟨fun w i hi => ?_, fun i hi => ?_, fun i hi => ?_⟩
  · unfold tkP
    split
    · rename_i z
      have := h.1 10 i (by rw [← z.1]; exact hi)
      omega
    · have := h.1 w i hi
      omega
  · rw [tkP_k _ _ _ _ _ (by decide)]; exact h.2.1 i hi
  · rw [tkP_k _ _ _ _ _ (by decide)]; exact h.2.2 i hi
theorem ciP_TB {N : Int} {T : Mem} (h : TB N T) (a g ps j : Int) : TB (N + 1) (ciP T a g ps j) := by
  refine ⟨fun w i hi => ?_, fun i hi => ?_, fun i hi => ?_⟩
  · unfold ciP
    split
    · rename_i z
      have := h.1 2 i (by rw [← z.1]; exact hi)
      omega
    · have := h.1 w i hi
      omega
  · rw [ciP_k _ _ _ _ _ _ (by decide)]; exact h.2.1 i hi
  · rw [ciP_k _ _ _ _ _ _ (by decide)]; exact h.2.2 i hi
theorem clT_TB {N : Int} {T : Mem} (h : TB N T) (hN : 100 ≤ N) (x : Int) : ∀ w, TB N (clT T x w)
  | 0 => h
  | w + 1 => (clT_TB h hN x w).upd _ _ (by omega) (by omega) (by omega)
theorem ngA_TB {N : Int} {T : Mem} (h : TB N T) (hN : 100 ≤ N) (x : Int) : TB (N + 1) (ngA T x) := ngP_TB (h.upd _ _ (by omega) (by omega) (by omega)) _ _ _ _
theorem ngT_TB {N : Int} {T : Mem} (h : TB N T) (hN : 100 ≤ N) {x : Int} (hx : 0 ≤ x ∧ x < 32) : TB (N + 1) (ngT T x) := by
  have b1 := h.p hx
  have h1 := ngA_TB h hN x
  unfold ngT
  split
  · rename_i z
    have q1 : TB (N + 1) (rjA (ngA T x) (T 1 x) (chT (ngA T x) (T 1 x) 0)) := by
      have b2 := h1.p (i := T 1 x) (by omega)
      exact h1.upd _ _ (by omega) (by omega) (by omega)
    have q2 : TB (N + 1) (rjB (ngA T x) (T 1 x) (chT (ngA T x) (T 1 x) 0)) := q1.upd _ _ (q1.n 2 (by decide) (by omega)) (by omega) (by omega)
    have q3 : TB (N + 1) (rjC (ngA T x) (T 1 x) (chT (ngA T x) (T 1 x) 0)) := q2.upd _ _ (q2.n 3 (by decide) (by omega)) (by omega) (by omega)
    exact q3.upd _ _ (by omega) (by omega) (by omega)
  · exact h1
theorem tkA_TB {N : Int} {T : Mem} (h : TB N T) (hN : 100 ≤ N) (P p : Int) : TB (N + 1) (tkA T P p) := tkP_TB ((h.upd _ _ (by omega) (by omega) (by omega)).upd _ _ (by omega) (by omega) (by omega)) _ _ _
theorem tkT_TB {N : Int} {T : Mem} (h : TB N T) (hN : 100 ≤ N) {P : Int} (hP : 0 ≤ P ∧ P ≤ 16) {p : Int} (hp : 0 ≤ p ∧ p < 16) : TB (N + 2) (tkT T P p) := by
  have b1 := h.g hp
  have h1 := tkA_TB h hN P p
  unfold tkT
  split
  · exact h.mono (by omega)
  · split
    · exact (ngT_TB h1 (by omega) (by omega)).mono (by omega)
    · split
      · have b2 := toT_b (tkA T P p) hP (T 9 p) (if T 10 p < tbT (tkA T P p) P (T 9 p) then T 10 p else tbT (tkA T P p) P (T 9 p) - 1)
        exact (h1.mono (show N + 1 ≤ N + 2 by omega)).upd _ _ (by omega) (by omega) (by omega)
      · exact h1.mono (by omega)
theorem nwT_TB {N : Int} {T : Mem} (h : TB N T) (hN : 100 ≤ N) (hf : frT T ≠ -1) {p k : Int} (hp : 0 ≤ p ∧ p < 16) (hk : 0 ≤ k ∧ k ≤ 4) : TB N (nwT T p k) := by
  have bf := fmG_b (ind T 0 0) 32 32 (by decide)
  have bf : -1 ≤ frT T ∧ frT T < 32 := bf
  exact (((((((clT_TB h hN (frT T) 9).upd _ _ (by omega) (by omega) (by omega)).upd _ _ (by omega) (by omega) (by omega)).upd _ _ (by omega) (by omega) (by omega)).upd _ _ (by omega) (by omega) (by omega)).upd _ _ (by omega) (by omega) (by omega)).upd _ _ (by omega) (by omega) (by omega))
theorem ciT_TB {N : Int} {T : Mem} (h : TB N T) (hN : 100 ≤ N) {a g ps wt : Int} (ha : 0 ≤ a ∧ a < 32) (hps : -N ≤ ps ∧ ps ≤ N + 1) (hw : -N ≤ wt ∧ wt ≤ N) : TB (N + 1) (ciT T a g ps wt) :=
  (((ciP_TB h a g ps 32).upd _ _ (by omega) (by omega) (by omega)).upd _ _ (by omega) (by omega) (by omega)).upd _ _ (by omega) (by omega) (by omega)
theorem frT_b (T : Mem) : -1 ≤ frT T ∧ frT T < 32 := fmG_b (ind T 0 0) 32 32 (by decide)
theorem pr0_TB {N : Int} {T : Mem} (h : TB N T) (hN : 100 ≤ N) {k : Int} (hk : 0 ≤ k ∧ k ≤ 4) : TB N (pr0 T k) := (clT_TB h hN (frT T) 9).upd _ _ (by omega) (by omega) (by omega)
theorem pr3_TB {N : Int} {T : Mem} (h : TB N T) (hN : 100 ≤ N) {x k : Int} (hx : 0 ≤ x ∧ x < 32) (hk : 0 ≤ k ∧ k ≤ 4) : TB N (pr1 T x k) ∧ TB N (pr2 T x k) ∧ TB N (pr3 T x k) := by
  have q0 := pr0_TB h hN hk
  have q1 : TB N (pr1 T x k) := by
    have b2 := q0.p hx
    exact q0.upd _ _ (by omega) (by omega) (by omega)
  have q2 : TB N (pr2 T x k) := q1.upd _ _ (q1.n 2 (by decide) hx) (by omega) (by omega)
  have q3 : TB N (pr3 T x k) := q2.upd _ _ (q2.n 3 (by decide) hx) (by omega) (by omega)
  exact ⟨q1, q2, q3⟩
theorem prT_TB {N : Int} {T : Mem} (h : TB N T) (hN : 100 ≤ N) (hf : frT T ≠ -1) {x g k ah : Int} (hx : 0 ≤ x ∧ x < 32) (hk : 0 ≤ k ∧ k ≤ 4) : TB N (prT T x g k ah) := by
  have bf := frT_b T
  have q3 := (pr3_TB h hN hx hk).2.2
  exact (((((q3.upd _ _ (by omega) (by omega) (by omega)).upd _ _ (by split <;> omega) (by omega) (by omega)).upd _ _ (by omega) (by omega) (by omega)).upd _ _ (by omega) (by omega) (by omega)).upd _ _ (by split <;> omega) (by omega) (by omega)).upd _ _ (by omega) (by omega) (by omega)
section M2
variable {G : Gx} {l : Launch} {S : Sh} {n : Nat} {mu T : Mem} {la : Lam} {r : Nat}
set_option maxRecDepth 20000 in
theorem ggX9_nodeGoes_X9_of : GoodIn wsX9_nodeGoes wsX9_of := goodIn_r _ [5, 6, 22, 23, 24, 25, 26, 27, 28, 29, 30, 31, 32, 33, 34, 35, 36, 37, 38, 39, 40, 41, 42, 43, 44, 45] (by decide +kernel) (by decide +kernel)
set_option maxRecDepth 20000 in
theorem gX9_nodeGoes_X9_of : GoodIn wsX9_nodeGoes (wsV RX9 77 RX9 yX9_of wsX9_of) := goodIn_app (goodIn_of _ (by decide +kernel)) ggX9_nodeGoes_X9_of
set_option maxRecDepth 20000 in
theorem ggX9_nodeGoes_X9_puts : GoodIn wsX9_nodeGoes wsX9_puts := goodIn_r _ [10, 6, 22, 23, 24, 25, 26, 27, 28, 29, 30, 31, 32, 33, 34, 35, 36, 37, 38, 39, 40, 41, 42, 43, 44, 45] (by decide +kernel) (by decide +kernel)
set_option maxRecDepth 20000 in
theorem gX9_nodeGoes_X9_puts : GoodIn wsX9_nodeGoes (wsV RX9 81 RX9 yX9_puts wsX9_puts) := goodIn_app (goodIn_of _ (by decide +kernel)) ggX9_nodeGoes_X9_puts
set_option maxRecDepth 20000 in
theorem ggX9_nodeGoes_X9_in : GoodIn wsX9_nodeGoes wsX9_in := goodIn_r _ [13] (by decide +kernel) (by decide +kernel)
set_option maxRecDepth 20000 in
theorem gX9_nodeGoes_X9_in : GoodIn wsX9_nodeGoes (va_wsS RX9 73 yX9_in wsX9_in) := goodIn_app (goodIn_of _ (by decide +kernel)) ggX9_nodeGoes_X9_in
set_option maxRecDepth 20000 in
theorem ggX9_nodeGoes_X9_children : GoodIn wsX9_nodeGoes wsX9_children := goodIn_r _ [17, 1, 2, 3, 4, 5, 6, 11, 12, 13, 22, 23, 24, 25, 26, 27, 28, 29, 30, 31, 32, 33, 34, 35, 36, 37, 38, 39, 40, 41, 42, 43, 44, 45] (by decide +kernel) (by decide +kernel)
set_option maxRecDepth 20000 in
theorem gX9_nodeGoes_X9_children : GoodIn wsX9_nodeGoes (wsV RX9 102 RX9 yX9_children wsX9_children) := goodIn_app (goodIn_of _ (by decide +kernel)) ggX9_nodeGoes_X9_children
set_option maxRecDepth 20000 in
theorem ggX9_nodeGoes_X9_child : GoodIn wsX9_nodeGoes wsX9_child := goodIn_r _ [21, 1, 2, 3, 4, 5, 6, 11, 12, 13, 22, 23, 24, 25, 26, 27, 28, 29, 30, 31, 32, 33, 34, 35, 36, 37, 38, 39, 40, 41, 42, 43, 44, 45] (by decide +kernel) (by decide +kernel)
set_option maxRecDepth 20000 in
theorem gX9_nodeGoes_X9_child : GoodIn wsX9_nodeGoes (wsV RX9 105 RX9 yX9_child wsX9_child) := goodIn_app (goodIn_of _ (by decide +kernel)) ggX9_nodeGoes_X9_child
theorem dX9_nodeGoes_0 : decode cX9_nodeGoes 0 = .ok (.aload_n 0, 1) := by decide +kernel
theorem dX9_nodeGoes_1 : decode cX9_nodeGoes 1 = .ok (.iload_n 1, 1) := by decide +kernel
theorem dX9_nodeGoes_2 : decode cX9_nodeGoes 2 = .ok (.iconst 1, 1) := by decide +kernel
theorem dX9_nodeGoes_3 : decode cX9_nodeGoes 3 = .ok (.invokevirtual 77, 3) := by decide +kernel
theorem dX9_nodeGoes_6 : decode cX9_nodeGoes 6 = .ok (.istore_n 2, 1) := by decide +kernel
theorem dX9_nodeGoes_7 : decode cX9_nodeGoes 7 = .ok (.aload_n 0, 1) := by decide +kernel
theorem dX9_nodeGoes_8 : decode cX9_nodeGoes 8 = .ok (.iload_n 1, 1) := by decide +kernel
theorem dX9_nodeGoes_9 : decode cX9_nodeGoes 9 = .ok (.iconst 2, 1) := by decide +kernel
theorem dX9_nodeGoes_10 : decode cX9_nodeGoes 10 = .ok (.invokevirtual 77, 3) := by decide +kernel
theorem dX9_nodeGoes_13 : decode cX9_nodeGoes 13 = .ok (.istore_n 3, 1) := by decide +kernel
theorem dX9_nodeGoes_14 : decode cX9_nodeGoes 14 = .ok (.aload_n 0, 1) := by decide +kernel
theorem dX9_nodeGoes_15 : decode cX9_nodeGoes 15 = .ok (.iload_n 1, 1) := by decide +kernel
theorem dX9_nodeGoes_16 : decode cX9_nodeGoes 16 = .ok (.iconst 0, 1) := by decide +kernel
theorem dX9_nodeGoes_17 : decode cX9_nodeGoes 17 = .ok (.invokevirtual 77, 3) := by decide +kernel
theorem dX9_nodeGoes_20 : decode cX9_nodeGoes 20 = .ok (.iconst 4, 1) := by decide +kernel
theorem dX9_nodeGoes_21 : decode cX9_nodeGoes 21 = .ok (.if_icmp .ne 7, 3) := by decide +kernel
theorem dX9_nodeGoes_24 : decode cX9_nodeGoes 24 = .ok (.iconst 1, 1) := by decide +kernel
theorem dX9_nodeGoes_25 : decode cX9_nodeGoes 25 = .ok (.goto 4, 3) := by decide +kernel
theorem dX9_nodeGoes_28 : decode cX9_nodeGoes 28 = .ok (.iconst 0, 1) := by decide +kernel
theorem dX9_nodeGoes_29 : decode cX9_nodeGoes 29 = .ok (.istore 4, 2) := by decide +kernel
theorem dX9_nodeGoes_31 : decode cX9_nodeGoes 31 = .ok (.aload_n 0, 1) := by decide +kernel
theorem dX9_nodeGoes_32 : decode cX9_nodeGoes 32 = .ok (.iload_n 1, 1) := by decide +kernel
theorem dX9_nodeGoes_33 : decode cX9_nodeGoes 33 = .ok (.iconst 0, 1) := by decide +kernel
theorem dX9_nodeGoes_34 : decode cX9_nodeGoes 34 = .ok (.iconst 0, 1) := by decide +kernel
theorem dX9_nodeGoes_35 : decode cX9_nodeGoes 35 = .ok (.invokevirtual 81, 3) := by decide +kernel
theorem dX9_nodeGoes_38 : decode cX9_nodeGoes 38 = .ok (.iconst 0, 1) := by decide +kernel
theorem dX9_nodeGoes_39 : decode cX9_nodeGoes 39 = .ok (.istore 5, 2) := by decide +kernel
theorem dX9_nodeGoes_41 : decode cX9_nodeGoes 41 = .ok (.iload 5, 2) := by decide +kernel
theorem dX9_nodeGoes_43 : decode cX9_nodeGoes 43 = .ok (.bipush 32, 2) := by decide +kernel
theorem dX9_nodeGoes_45 : decode cX9_nodeGoes 45 = .ok (.if_icmp .ge 103, 3) := by decide +kernel
theorem dX9_nodeGoes_48 : decode cX9_nodeGoes 48 = .ok (.iload 4, 2) := by decide +kernel
theorem dX9_nodeGoes_50 : decode cX9_nodeGoes 50 = .ok (.ifCond .eq 22, 3) := by decide +kernel
theorem dX9_nodeGoes_53 : decode cX9_nodeGoes 53 = .ok (.aload_n 0, 1) := by decide +kernel
theorem dX9_nodeGoes_54 : decode cX9_nodeGoes 54 = .ok (.iload 5, 2) := by decide +kernel
theorem dX9_nodeGoes_56 : decode cX9_nodeGoes 56 = .ok (.iconst 0, 1) := by decide +kernel
theorem dX9_nodeGoes_57 : decode cX9_nodeGoes 57 = .ok (.invokevirtual 77, 3) := by decide +kernel
theorem dX9_nodeGoes_60 : decode cX9_nodeGoes 60 = .ok (.iconst 4, 1) := by decide +kernel
theorem dX9_nodeGoes_61 : decode cX9_nodeGoes 61 = .ok (.if_icmp .ne 7, 3) := by decide +kernel
theorem dX9_nodeGoes_64 : decode cX9_nodeGoes 64 = .ok (.iconst 1, 1) := by decide +kernel
theorem dX9_nodeGoes_65 : decode cX9_nodeGoes 65 = .ok (.goto 43, 3) := by decide +kernel
theorem dX9_nodeGoes_68 : decode cX9_nodeGoes 68 = .ok (.iconst 0, 1) := by decide +kernel
theorem dX9_nodeGoes_69 : decode cX9_nodeGoes 69 = .ok (.goto 39, 3) := by decide +kernel
theorem dX9_nodeGoes_72 : decode cX9_nodeGoes 72 = .ok (.aload_n 0, 1) := by decide +kernel
theorem dX9_nodeGoes_73 : decode cX9_nodeGoes 73 = .ok (.iload 5, 2) := by decide +kernel
theorem dX9_nodeGoes_75 : decode cX9_nodeGoes 75 = .ok (.iconst 0, 1) := by decide +kernel
theorem dX9_nodeGoes_76 : decode cX9_nodeGoes 76 = .ok (.invokevirtual 77, 3) := by decide +kernel
theorem dX9_nodeGoes_79 : decode cX9_nodeGoes 79 = .ok (.iconst 1, 1) := by decide +kernel
theorem dX9_nodeGoes_80 : decode cX9_nodeGoes 80 = .ok (.iconst 3, 1) := by decide +kernel
theorem dX9_nodeGoes_81 : decode cX9_nodeGoes 81 = .ok (.invokestatic 73, 3) := by decide +kernel
theorem dX9_nodeGoes_84 : decode cX9_nodeGoes 84 = .ok (.ifCond .eq 23, 3) := by decide +kernel
theorem dX9_nodeGoes_87 : decode cX9_nodeGoes 87 = .ok (.iload_n 2, 1) := by decide +kernel
theorem dX9_nodeGoes_88 : decode cX9_nodeGoes 88 = .ok (.iconst (-1), 1) := by decide +kernel
theorem dX9_nodeGoes_89 : decode cX9_nodeGoes 89 = .ok (.if_icmp .eq 18, 3) := by decide +kernel
theorem dX9_nodeGoes_92 : decode cX9_nodeGoes 92 = .ok (.aload_n 0, 1) := by decide +kernel
theorem dX9_nodeGoes_93 : decode cX9_nodeGoes 93 = .ok (.iload 5, 2) := by decide +kernel
theorem dX9_nodeGoes_95 : decode cX9_nodeGoes 95 = .ok (.iconst 1, 1) := by decide +kernel
theorem dX9_nodeGoes_96 : decode cX9_nodeGoes 96 = .ok (.invokevirtual 77, 3) := by decide +kernel
theorem dX9_nodeGoes_99 : decode cX9_nodeGoes 99 = .ok (.iload_n 2, 1) := by decide +kernel
theorem dX9_nodeGoes_100 : decode cX9_nodeGoes 100 = .ok (.if_icmp .ne 7, 3) := by decide +kernel
theorem dX9_nodeGoes_103 : decode cX9_nodeGoes 103 = .ok (.iconst 1, 1) := by decide +kernel
theorem dX9_nodeGoes_104 : decode cX9_nodeGoes 104 = .ok (.goto 4, 3) := by decide +kernel
theorem dX9_nodeGoes_107 : decode cX9_nodeGoes 107 = .ok (.iconst 0, 1) := by decide +kernel
theorem dX9_nodeGoes_108 : decode cX9_nodeGoes 108 = .ok (.istore 6, 2) := by decide +kernel
theorem dX9_nodeGoes_110 : decode cX9_nodeGoes 110 = .ok (.iload 6, 2) := by decide +kernel
theorem dX9_nodeGoes_112 : decode cX9_nodeGoes 112 = .ok (.ifCond .eq 30, 3) := by decide +kernel
theorem dX9_nodeGoes_115 : decode cX9_nodeGoes 115 = .ok (.aload_n 0, 1) := by decide +kernel
theorem dX9_nodeGoes_116 : decode cX9_nodeGoes 116 = .ok (.iload 5, 2) := by decide +kernel
theorem dX9_nodeGoes_118 : decode cX9_nodeGoes 118 = .ok (.iconst 2, 1) := by decide +kernel
theorem dX9_nodeGoes_119 : decode cX9_nodeGoes 119 = .ok (.invokevirtual 77, 3) := by decide +kernel
theorem dX9_nodeGoes_122 : decode cX9_nodeGoes 122 = .ok (.iload_n 3, 1) := by decide +kernel
theorem dX9_nodeGoes_123 : decode cX9_nodeGoes 123 = .ok (.if_icmp .le 19, 3) := by decide +kernel
theorem dX9_nodeGoes_126 : decode cX9_nodeGoes 126 = .ok (.aload_n 0, 1) := by decide +kernel
theorem dX9_nodeGoes_127 : decode cX9_nodeGoes 127 = .ok (.iload 5, 2) := by decide +kernel
theorem dX9_nodeGoes_129 : decode cX9_nodeGoes 129 = .ok (.iconst 2, 1) := by decide +kernel
theorem dX9_nodeGoes_130 : decode cX9_nodeGoes 130 = .ok (.aload_n 0, 1) := by decide +kernel
theorem dX9_nodeGoes_131 : decode cX9_nodeGoes 131 = .ok (.iload 5, 2) := by decide +kernel
theorem dX9_nodeGoes_133 : decode cX9_nodeGoes 133 = .ok (.iconst 2, 1) := by decide +kernel
theorem dX9_nodeGoes_134 : decode cX9_nodeGoes 134 = .ok (.invokevirtual 77, 3) := by decide +kernel
theorem dX9_nodeGoes_137 : decode cX9_nodeGoes 137 = .ok (.iconst 1, 1) := by decide +kernel
theorem dX9_nodeGoes_138 : decode cX9_nodeGoes 138 = .ok (.isub, 1) := by decide +kernel
theorem dX9_nodeGoes_139 : decode cX9_nodeGoes 139 = .ok (.invokevirtual 81, 3) := by decide +kernel
theorem dX9_nodeGoes_142 : decode cX9_nodeGoes 142 = .ok (.iinc 5 1, 3) := by decide +kernel
theorem dX9_nodeGoes_145 : decode cX9_nodeGoes 145 = .ok (.goto (-104), 3) := by decide +kernel
theorem dX9_nodeGoes_148 : decode cX9_nodeGoes 148 = .ok (.iload 4, 2) := by decide +kernel
theorem dX9_nodeGoes_150 : decode cX9_nodeGoes 150 = .ok (.ifCond .ne 71, 3) := by decide +kernel
theorem dX9_nodeGoes_153 : decode cX9_nodeGoes 153 = .ok (.iload_n 2, 1) := by decide +kernel
theorem dX9_nodeGoes_154 : decode cX9_nodeGoes 154 = .ok (.iconst (-1), 1) := by decide +kernel
theorem dX9_nodeGoes_155 : decode cX9_nodeGoes 155 = .ok (.if_icmp .eq 66, 3) := by decide +kernel
theorem dX9_nodeGoes_158 : decode cX9_nodeGoes 158 = .ok (.aload_n 0, 1) := by decide +kernel
theorem dX9_nodeGoes_159 : decode cX9_nodeGoes 159 = .ok (.iload_n 2, 1) := by decide +kernel
theorem dX9_nodeGoes_160 : decode cX9_nodeGoes 160 = .ok (.invokevirtual 102, 3) := by decide +kernel
theorem dX9_nodeGoes_163 : decode cX9_nodeGoes 163 = .ok (.iconst 1, 1) := by decide +kernel
theorem dX9_nodeGoes_164 : decode cX9_nodeGoes 164 = .ok (.if_icmp .ne 57, 3) := by decide +kernel
theorem dX9_nodeGoes_167 : decode cX9_nodeGoes 167 = .ok (.aload_n 0, 1) := by decide +kernel
theorem dX9_nodeGoes_168 : decode cX9_nodeGoes 168 = .ok (.iload_n 2, 1) := by decide +kernel
theorem dX9_nodeGoes_169 : decode cX9_nodeGoes 169 = .ok (.iconst 0, 1) := by decide +kernel
theorem dX9_nodeGoes_170 : decode cX9_nodeGoes 170 = .ok (.invokevirtual 105, 3) := by decide +kernel
theorem dX9_nodeGoes_173 : decode cX9_nodeGoes 173 = .ok (.istore 5, 2) := by decide +kernel
theorem dX9_nodeGoes_175 : decode cX9_nodeGoes 175 = .ok (.aload_n 0, 1) := by decide +kernel
theorem dX9_nodeGoes_176 : decode cX9_nodeGoes 176 = .ok (.iload 5, 2) := by decide +kernel
theorem dX9_nodeGoes_178 : decode cX9_nodeGoes 178 = .ok (.iconst 1, 1) := by decide +kernel
theorem dX9_nodeGoes_179 : decode cX9_nodeGoes 179 = .ok (.aload_n 0, 1) := by decide +kernel
theorem dX9_nodeGoes_180 : decode cX9_nodeGoes 180 = .ok (.iload_n 2, 1) := by decide +kernel
theorem dX9_nodeGoes_181 : decode cX9_nodeGoes 181 = .ok (.iconst 1, 1) := by decide +kernel
theorem dX9_nodeGoes_182 : decode cX9_nodeGoes 182 = .ok (.invokevirtual 77, 3) := by decide +kernel
theorem dX9_nodeGoes_185 : decode cX9_nodeGoes 185 = .ok (.invokevirtual 81, 3) := by decide +kernel
theorem dX9_nodeGoes_188 : decode cX9_nodeGoes 188 = .ok (.aload_n 0, 1) := by decide +kernel
theorem dX9_nodeGoes_189 : decode cX9_nodeGoes 189 = .ok (.iload 5, 2) := by decide +kernel
theorem dX9_nodeGoes_191 : decode cX9_nodeGoes 191 = .ok (.iconst 2, 1) := by decide +kernel
theorem dX9_nodeGoes_192 : decode cX9_nodeGoes 192 = .ok (.aload_n 0, 1) := by decide +kernel
theorem dX9_nodeGoes_193 : decode cX9_nodeGoes 193 = .ok (.iload_n 2, 1) := by decide +kernel
theorem dX9_nodeGoes_194 : decode cX9_nodeGoes 194 = .ok (.iconst 2, 1) := by decide +kernel
theorem dX9_nodeGoes_195 : decode cX9_nodeGoes 195 = .ok (.invokevirtual 77, 3) := by decide +kernel
theorem dX9_nodeGoes_198 : decode cX9_nodeGoes 198 = .ok (.invokevirtual 81, 3) := by decide +kernel
theorem dX9_nodeGoes_201 : decode cX9_nodeGoes 201 = .ok (.aload_n 0, 1) := by decide +kernel
theorem dX9_nodeGoes_202 : decode cX9_nodeGoes 202 = .ok (.iload 5, 2) := by decide +kernel
theorem dX9_nodeGoes_204 : decode cX9_nodeGoes 204 = .ok (.iconst 3, 1) := by decide +kernel
theorem dX9_nodeGoes_205 : decode cX9_nodeGoes 205 = .ok (.aload_n 0, 1) := by decide +kernel
theorem dX9_nodeGoes_206 : decode cX9_nodeGoes 206 = .ok (.iload_n 2, 1) := by decide +kernel
theorem dX9_nodeGoes_207 : decode cX9_nodeGoes 207 = .ok (.iconst 3, 1) := by decide +kernel
theorem dX9_nodeGoes_208 : decode cX9_nodeGoes 208 = .ok (.invokevirtual 77, 3) := by decide +kernel
theorem dX9_nodeGoes_211 : decode cX9_nodeGoes 211 = .ok (.invokevirtual 81, 3) := by decide +kernel
theorem dX9_nodeGoes_214 : decode cX9_nodeGoes 214 = .ok (.aload_n 0, 1) := by decide +kernel
theorem dX9_nodeGoes_215 : decode cX9_nodeGoes 215 = .ok (.iload_n 2, 1) := by decide +kernel
theorem dX9_nodeGoes_216 : decode cX9_nodeGoes 216 = .ok (.iconst 0, 1) := by decide +kernel
theorem dX9_nodeGoes_217 : decode cX9_nodeGoes 217 = .ok (.iconst 0, 1) := by decide +kernel
theorem dX9_nodeGoes_218 : decode cX9_nodeGoes 218 = .ok (.invokevirtual 81, 3) := by decide +kernel
theorem dX9_nodeGoes_221 : decode cX9_nodeGoes 221 = .ok (.return_, 1) := by decide +kernel
theorem m_nodeGoes (hG : GP G) (hM : MoS S r) {N : Int} (hB : TB N T) (hN : 100 ≤ N ∧ N ≤ 1073741000) {x : Int} (hx : 0 ≤ x ∧ x < 32) (ho : okN T x) : Ct G l yX9_nodeGoes wsX9_nodeGoes 2 0 0 [.ref r, .int (I32 x)] S n (ptT mu r T) la (Dt none S n (ptT mu r (ngT T x)) la) := by
  have o9 := hM.1
  have b0 := hB.n 0 (by decide) hx
  have b1 := hB.p hx
  have b2 := hB.n 2 (by decide) hx
  unfold ngT
  unfold okN at ho
  generalize eF : flI T x = fl at ho
  have bF : fl = 0 ∨ fl = 1 := by rw [← eF]; unfold flI; split <;> omega
  have hB1 : TB N (up T 0 x 0) := hB.upd _ _ (by omega) (by omega) (by omega)
  have hBA := ngA_TB hB hN.1 x
  have eA : ngA T x = ngP (up T 0 x 0) fl (T 1 x) (T 2 x) 32 := by unfold ngA; rw [eF]
  refine Ct.ofV (cc := cX9_nodeGoes) (nL := 7) (ret := none) [some (.ref r), some (.int (I32 x)), none, none, none, none, none] hG (by decide) rfl (Nat.le_of_ble_eq_true rfl) rfl ?_
  rintro X rfl rfl C hcl hsl E
  have last : ∀ w6, V X 148 [some (.ref r), some (.int (I32 x)), some (.int (I32 (T 1 x))), some (.int (I32 (T 2 x))), some (.int (I32 fl)), some (.int (I32 32)), w6] [] S n (ptT mu r (ngA T x)) la 0 0 := by
    intro w6
    have bk := kdT_b (ngA T x) (T 1 x)
    have bc := chT_b (ngA T x) (T 1 x) 0
    refine V_iload C dX9_nodeGoes_148 rfl ?_
    refine V_if_ne C 221 dX9_nodeGoes_150 (by decide) (by omega) (fun z => ?_) (fun z => ?_)
    · rw [if_neg (by omega)] at E
      refine V_return C E dX9_nodeGoes_221 (by omega) (by omega) ?_
      exact Dt_rfl
    · refine V_iload_n C dX9_nodeGoes_153 rfl ?_
      refine V_iconst C dX9_nodeGoes_154 ?_
      refine V_icmp_eq C 221 dX9_nodeGoes_155 (by decide) (by omega) (by omega) (fun z2 => ?_) (fun z2 => ?_)
      · rw [if_neg (by omega)] at E
        refine V_return C E dX9_nodeGoes_221 (by omega) (by omega) ?_
        exact Dt_rfl
      · refine V_aload_n C dX9_nodeGoes_158 rfl ?_
        refine V_iload_n C dX9_nodeGoes_159 rfl ?_
        refine V_callVD (nA := 1) C dX9_nodeGoes_160 (m_children C.gp hM hBA (by omega) (by omega)) gX9_nodeGoes_X9_children rfl o9 rfl (by decide +kernel) rfl (by decide) (by decide) (Nat.le_of_ble_eq_true rfl) ⟨by omega, by omega⟩ rfl ?_
        refine V_iconst C dX9_nodeGoes_163 ?_
        refine V_icmp_ne C 221 dX9_nodeGoes_164 (by decide) (by omega) (by omega) (fun z3 => ?_) (fun z3 => ?_)
        · rw [if_neg (by omega)] at E
          refine V_return C E dX9_nodeGoes_221 (by omega) (by omega) ?_
          exact Dt_rfl
        · have hc0 := ho (by omega)
          rw [if_pos (by omega)] at E
          refine V_aload_n C dX9_nodeGoes_167 rfl ?_
          refine V_iload_n C dX9_nodeGoes_168 rfl ?_
          refine V_iconst C dX9_nodeGoes_169 ?_
          refine V_callVD (nA := 2) C dX9_nodeGoes_170 (m_child C.gp hM hBA (by omega) (by omega) (by omega)) gX9_nodeGoes_X9_child rfl o9 rfl (by decide +kernel) rfl (by decide) (by decide) (Nat.le_of_ble_eq_true rfl) ⟨by omega, by omega⟩ rfl ?_
          generalize chT (ngA T x) (T 1 x) 0 = c at bc hc0 E
          refine V_istore C dX9_nodeGoes_173 rfl (by decide) ?_
          refine V_aload_n C dX9_nodeGoes_175 rfl ?_
          refine V_iload C dX9_nodeGoes_176 rfl ?_
          refine V_iconst C dX9_nodeGoes_178 ?_
          refine V_aload_n C dX9_nodeGoes_179 rfl ?_
          refine V_iload_n C dX9_nodeGoes_180 rfl ?_
          refine V_iconst C dX9_nodeGoes_181 ?_
          refine V_callVD (nA := 2) C dX9_nodeGoes_182 (m_of C.gp hM (by omega) 1 (by decide) rfl) gX9_nodeGoes_X9_of rfl o9 rfl (by decide +kernel) rfl (by decide) (by decide) (Nat.le_of_ble_eq_true rfl) ⟨by omega, by omega⟩ rfl ?_
          refine V_callVD (nA := 3) C dX9_nodeGoes_185 (m_puts C.gp hM (by omega) 1 (by decide) rfl) gX9_nodeGoes_X9_puts rfl o9 rfl (by decide +kernel) rfl (by decide) (by decide) (Nat.le_of_ble_eq_true rfl) ⟨by omega, by omega⟩ rfl ?_
          refine V_aload_n C dX9_nodeGoes_188 rfl ?_
          refine V_iload C dX9_nodeGoes_189 rfl ?_
          refine V_iconst C dX9_nodeGoes_191 ?_
          refine V_aload_n C dX9_nodeGoes_192 rfl ?_
          refine V_iload_n C dX9_nodeGoes_193 rfl ?_
          refine V_iconst C dX9_nodeGoes_194 ?_
          refine V_callVD (nA := 2) C dX9_nodeGoes_195 (m_of C.gp hM (by omega) 2 (by decide) rfl) gX9_nodeGoes_X9_of rfl o9 rfl (by decide +kernel) rfl (by decide) (by decide) (Nat.le_of_ble_eq_true rfl) ⟨by omega, by omega⟩ rfl ?_
          refine V_callVD (nA := 3) C dX9_nodeGoes_198 (m_puts C.gp hM (by omega) 2 (by decide) rfl) gX9_nodeGoes_X9_puts rfl o9 rfl (by decide +kernel) rfl (by decide) (by decide) (Nat.le_of_ble_eq_true rfl) ⟨by omega, by omega⟩ rfl ?_
          refine V_aload_n C dX9_nodeGoes_201 rfl ?_
          refine V_iload C dX9_nodeGoes_202 rfl ?_
          refine V_iconst C dX9_nodeGoes_204 ?_
          refine V_aload_n C dX9_nodeGoes_205 rfl ?_
          refine V_iload_n C dX9_nodeGoes_206 rfl ?_
          refine V_iconst C dX9_nodeGoes_207 ?_
          refine V_callVD (nA := 2) C dX9_nodeGoes_208 (m_of C.gp hM (by omega) 3 (by decide) rfl) gX9_nodeGoes_X9_of rfl o9 rfl (by decide +kernel) rfl (by decide) (by decide) (Nat.le_of_ble_eq_true rfl) ⟨by omega, by omega⟩ rfl ?_
          refine V_callVD (nA := 3) C dX9_nodeGoes_211 (m_puts C.gp hM (by omega) 3 (by decide) rfl) gX9_nodeGoes_X9_puts rfl o9 rfl (by decide +kernel) rfl (by decide) (by decide) (Nat.le_of_ble_eq_true rfl) ⟨by omega, by omega⟩ rfl ?_
          refine V_aload_n C dX9_nodeGoes_214 rfl ?_
          refine V_iload_n C dX9_nodeGoes_215 rfl ?_
          refine V_iconst C dX9_nodeGoes_216 ?_
          refine V_iconst C dX9_nodeGoes_217 ?_
          refine V_callVD (nA := 3) C dX9_nodeGoes_218 (m_puts C.gp hM (by omega) 0 (by decide) rfl) gX9_nodeGoes_X9_puts rfl o9 rfl (by decide +kernel) rfl (by decide) (by decide) (Nat.le_of_ble_eq_true rfl) ⟨by omega, by omega⟩ rfl ?_
          refine V_return C E dX9_nodeGoes_221 (by omega) (by omega) ?_
          exact Dt_rfl
  have loop : ∀ (d j : Nat) (w6 : Option Value), j + d = 32 → V X 41 [some (.ref r), some (.int (I32 x)), some (.int (I32 (T 1 x))), some (.int (I32 (T 2 x))), some (.int (I32 fl)), some (.int (I32 (j : Int))), w6] [] S n (ptT mu r (ngP (up T 0 x 0) fl (T 1 x) (T 2 x) j)) la 0 0 := by
    intro d
    induction d with
    | zero =>
      intro j w6 h1
      have hj : j = 32 := by omega
      subst hj
      have h9 := last w6
      rw [eA] at h9
      refine V_iload C dX9_nodeGoes_41 rfl ?_
      refine V_bipush C dX9_nodeGoes_43 (by decide +kernel) ?_
      refine V_icmp_ge C 148 dX9_nodeGoes_45 (by decide) (by omega) (by omega) (fun z => ?_) (fun z => ?_)
      · exact h9
      · exact absurd z (by decide)
    | succ d ih =>
      intro j w6 h1
      have hB2 := ngP_TB hB1 fl (T 1 x) (T 2 x) j
      have c0 := hB2.n 0 (by decide) (i := (j : Int)) (by omega)
      have c1 := hB2.n 1 (by decide) (i := (j : Int)) (by omega)
      have c2 := hB2.n 2 (by decide) (i := (j : Int)) (by omega)
      rw [ngP_k _ _ _ _ _ _ (by decide)] at c0 c1
      rw [ngP_hi _ _ _ _ _ _ (by omega)] at c2
      have bi := inI_b (up T 0 x 0 0 j) 1 3
      have h9 := fun w => ih (j + 1) w (by omega)
      have hno : ∀ w, ¬ (bsI (up T 0 x 0) fl (T 1 x) j = 1 ∧ T 2 x < up T 0 x 0 2 j) → V X 41 [some (.ref r), some (.int (I32 x)), some (.int (I32 (T 1 x))), some (.int (I32 (T 2 x))), some (.int (I32 fl)), some (.int (I32 ((j + 1 : Nat) : Int))), w] [] S n (ptT mu r (ngP (up T 0 x 0) fl (T 1 x) (T 2 x) j)) la 0 0 := by
        intro w hn
        have := h9 w
        rw [show ((j + 1 : Nat) : Int) = (j : Int) + 1 from rfl, ngP_no hn] at this
        exact this
      have tail : ∀ (v : Int), (v = bsI (up T 0 x 0) fl (T 1 x) j) → V X 108 [some (.ref r), some (.int (I32 x)), some (.int (I32 (T 1 x))), some (.int (I32 (T 2 x))), some (.int (I32 fl)), some (.int (I32 (j : Int))), w6] [.int (I32 v)] S n (ptT mu r (ngP (up T 0 x 0) fl (T 1 x) (T 2 x) j)) la 0 0 := by
        intro v hv
        have bv : 0 ≤ v ∧ v ≤ 1 := by rw [hv]; unfold bsI; split <;> omega
        refine V_istore C dX9_nodeGoes_108 rfl (by decide) ?_
        refine V_iload C dX9_nodeGoes_110 rfl ?_
        refine V_if_eq C 142 dX9_nodeGoes_112 (by decide) (by omega) (fun z112 => ?_) (fun z112 => ?_)
        · refine V_iinc C dX9_nodeGoes_142 rfl rfl (by decide) ?_
          refine V_goto C 41 dX9_nodeGoes_145 (by decide) ?_
          first | (have hq := hyes; exact h9 _) | exact hno _ (by omega)
        · refine V_aload_n C dX9_nodeGoes_115 rfl ?_
          refine V_iload C dX9_nodeGoes_116 rfl ?_
          refine V_iconst C dX9_nodeGoes_118 ?_
          refine V_callVD (nA := 2) C dX9_nodeGoes_119 (m_of C.gp hM (by omega) 2 (by decide) rfl) gX9_nodeGoes_X9_of rfl o9 rfl (by decide +kernel) rfl (by decide) (by decide) (Nat.le_of_ble_eq_true rfl) ⟨by omega, by omega⟩ rfl ?_
          rw [ngP_hi _ _ _ _ _ _ (by omega)]
          refine V_iload_n C dX9_nodeGoes_122 rfl ?_
          refine V_icmp_le C 142 dX9_nodeGoes_123 (by decide) (by omega) (by omega) (fun z123 => ?_) (fun z123 => ?_)
          · refine V_iinc C dX9_nodeGoes_142 rfl rfl (by decide) ?_
            refine V_goto C 41 dX9_nodeGoes_145 (by decide) ?_
            first | (have hq := hyes; exact h9 _) | exact hno _ (by omega)
          · refine V_aload_n C dX9_nodeGoes_126 rfl ?_
            refine V_iload C dX9_nodeGoes_127 rfl ?_
            refine V_iconst C dX9_nodeGoes_129 ?_
            refine V_aload_n C dX9_nodeGoes_130 rfl ?_
            refine V_iload C dX9_nodeGoes_131 rfl ?_
            refine V_iconst C dX9_nodeGoes_133 ?_
            refine V_callVD (nA := 2) C dX9_nodeGoes_134 (m_of C.gp hM (by omega) 2 (by decide) rfl) gX9_nodeGoes_X9_of rfl o9 rfl (by decide +kernel) rfl (by decide) (by decide) (Nat.le_of_ble_eq_true rfl) ⟨by omega, by omega⟩ rfl ?_
            rw [ngP_hi _ _ _ _ _ _ (by omega)]
            refine V_iconst C dX9_nodeGoes_137 ?_
            refine V_isub C dX9_nodeGoes_138 ?_
            refine V_callVD (nA := 3) C dX9_nodeGoes_139 (m_puts C.gp hM (by omega) 2 (by decide) rfl) gX9_nodeGoes_X9_puts rfl o9 rfl (by decide +kernel) rfl (by decide) (by decide) (Nat.le_of_ble_eq_true rfl) ⟨by omega, by omega⟩ rfl ?_
            rw [ngP_yes (by omega) (by omega) (by omega)]
            have hyes := True.intro
            refine V_iinc C dX9_nodeGoes_142 rfl rfl (by decide) ?_
            refine V_goto C 41 dX9_nodeGoes_145 (by decide) ?_
            first | (have hq := hyes; exact h9 _) | exact hno _ (by omega)
      refine V_iload C dX9_nodeGoes_41 rfl ?_
      refine V_bipush C dX9_nodeGoes_43 (by decide +kernel) ?_
      refine V_icmp_ge C 148 dX9_nodeGoes_45 (by decide) (by omega) (by omega) (fun z45 => ?_) (fun z45 => ?_)
      · exact absurd z45 (by first | omega | decide)
      · refine V_iload C dX9_nodeGoes_48 rfl ?_
        refine V_if_eq C 72 dX9_nodeGoes_50 (by decide) (by omega) (fun z50 => ?_) (fun z50 => ?_)
        · refine V_aload_n C dX9_nodeGoes_72 rfl ?_
          refine V_iload C dX9_nodeGoes_73 rfl ?_
          refine V_iconst C dX9_nodeGoes_75 ?_
          refine V_callVD (nA := 2) C dX9_nodeGoes_76 (m_of C.gp hM (by omega) 0 (by decide) rfl) gX9_nodeGoes_X9_of rfl o9 rfl (by decide +kernel) rfl (by decide) (by decide) (Nat.le_of_ble_eq_true rfl) ⟨by omega, by omega⟩ rfl ?_
          rw [ngP_k _ _ _ _ _ _ (by decide)]
          refine V_iconst C dX9_nodeGoes_79 ?_
          refine V_iconst C dX9_nodeGoes_80 ?_
          refine V_callSD (nA := 3) C dX9_nodeGoes_81 (m_in C.gp (by omega) (by omega) (by omega)) gX9_nodeGoes_X9_in rfl (by decide +kernel) rfl (by decide) (by decide) (Nat.le_of_ble_eq_true rfl) ⟨by omega, by omega⟩ rfl ?_
          refine V_if_eq C 107 dX9_nodeGoes_84 (by decide) (by omega) (fun z84 => ?_) (fun z84 => ?_)
          · refine V_iconst C dX9_nodeGoes_107 ?_
            exact tail _ (by unfold bsI; unfold inI at *; (repeat' split) <;> omega)
          · refine V_iload_n C dX9_nodeGoes_87 rfl ?_
            refine V_iconst C dX9_nodeGoes_88 ?_
            refine V_icmp_eq C 107 dX9_nodeGoes_89 (by decide) (by omega) (by omega) (fun z89 => ?_) (fun z89 => ?_)
            · refine V_iconst C dX9_nodeGoes_107 ?_
              exact tail _ (by unfold bsI; unfold inI at *; (repeat' split) <;> omega)
            · refine V_aload_n C dX9_nodeGoes_92 rfl ?_
              refine V_iload C dX9_nodeGoes_93 rfl ?_
              refine V_iconst C dX9_nodeGoes_95 ?_
              refine V_callVD (nA := 2) C dX9_nodeGoes_96 (m_of C.gp hM (by omega) 1 (by decide) rfl) gX9_nodeGoes_X9_of rfl o9 rfl (by decide +kernel) rfl (by decide) (by decide) (Nat.le_of_ble_eq_true rfl) ⟨by omega, by omega⟩ rfl ?_
              rw [ngP_k _ _ _ _ _ _ (by decide)]
              refine V_iload_n C dX9_nodeGoes_99 rfl ?_
              refine V_icmp_ne C 107 dX9_nodeGoes_100 (by decide) (by omega) (by omega) (fun z100 => ?_) (fun z100 => ?_)
              · refine V_iconst C dX9_nodeGoes_107 ?_
                exact tail _ (by unfold bsI; unfold inI at *; (repeat' split) <;> omega)
              · refine V_iconst C dX9_nodeGoes_103 ?_
                refine V_goto C 108 dX9_nodeGoes_104 (by decide) ?_
                exact tail _ (by unfold bsI; unfold inI at *; (repeat' split) <;> omega)
        · refine V_aload_n C dX9_nodeGoes_53 rfl ?_
          refine V_iload C dX9_nodeGoes_54 rfl ?_
          refine V_iconst C dX9_nodeGoes_56 ?_
          refine V_callVD (nA := 2) C dX9_nodeGoes_57 (m_of C.gp hM (by omega) 0 (by decide) rfl) gX9_nodeGoes_X9_of rfl o9 rfl (by decide +kernel) rfl (by decide) (by decide) (Nat.le_of_ble_eq_true rfl) ⟨by omega, by omega⟩ rfl ?_
          rw [ngP_k _ _ _ _ _ _ (by decide)]
          refine V_iconst C dX9_nodeGoes_60 ?_
          refine V_icmp_ne C 68 dX9_nodeGoes_61 (by decide) (by omega) (by omega) (fun z61 => ?_) (fun z61 => ?_)
          · refine V_iconst C dX9_nodeGoes_68 ?_
            refine V_goto C 108 dX9_nodeGoes_69 (by decide) ?_
            exact tail _ (by unfold bsI; unfold inI at *; (repeat' split) <;> omega)
          · refine V_iconst C dX9_nodeGoes_64 ?_
            refine V_goto C 108 dX9_nodeGoes_65 (by decide) ?_
            exact tail _ (by unfold bsI; unfold inI at *; (repeat' split) <;> omega)
  refine V_aload_n C dX9_nodeGoes_0 rfl ?_
  refine V_iload_n C dX9_nodeGoes_1 rfl ?_
  refine V_iconst C dX9_nodeGoes_2 ?_
  refine V_callVD (nA := 2) C dX9_nodeGoes_3 (m_of C.gp hM hx 1 (by decide) rfl) gX9_nodeGoes_X9_of rfl o9 rfl (by decide +kernel) rfl (by decide) (by decide) (Nat.le_of_ble_eq_true rfl) ⟨by omega, by omega⟩ rfl ?_
  refine V_istore_n C dX9_nodeGoes_6 rfl (by decide) ?_
  refine V_aload_n C dX9_nodeGoes_7 rfl ?_
  refine V_iload_n C dX9_nodeGoes_8 rfl ?_
  refine V_iconst C dX9_nodeGoes_9 ?_
  refine V_callVD (nA := 2) C dX9_nodeGoes_10 (m_of C.gp hM hx 2 (by decide) rfl) gX9_nodeGoes_X9_of rfl o9 rfl (by decide +kernel) rfl (by decide) (by decide) (Nat.le_of_ble_eq_true rfl) ⟨by omega, by omega⟩ rfl ?_
  refine V_istore_n C dX9_nodeGoes_13 rfl (by decide) ?_
  refine V_aload_n C dX9_nodeGoes_14 rfl ?_
  refine V_iload_n C dX9_nodeGoes_15 rfl ?_
  refine V_iconst C dX9_nodeGoes_16 ?_
  refine V_callVD (nA := 2) C dX9_nodeGoes_17 (m_of C.gp hM hx 0 (by decide) rfl) gX9_nodeGoes_X9_of rfl o9 rfl (by decide +kernel) rfl (by decide) (by decide) (Nat.le_of_ble_eq_true rfl) ⟨by omega, by omega⟩ rfl ?_
  refine V_iconst C dX9_nodeGoes_20 ?_
  have next : V X 29 [some (.ref r), some (.int (I32 x)), some (.int (I32 (T 1 x))), some (.int (I32 (T 2 x))), none, none, none] [.int (I32 fl)] S n (ptT mu r T) la 0 0 := by
    refine V_istore C dX9_nodeGoes_29 rfl (by decide) ?_
    refine V_aload_n C dX9_nodeGoes_31 rfl ?_
    refine V_iload_n C dX9_nodeGoes_32 rfl ?_
    refine V_iconst C dX9_nodeGoes_33 ?_
    refine V_iconst C dX9_nodeGoes_34 ?_
    refine V_callVD (nA := 3) C dX9_nodeGoes_35 (m_puts C.gp hM hx 0 (by decide) rfl) gX9_nodeGoes_X9_puts rfl o9 rfl (by decide +kernel) rfl (by decide) (by decide) (Nat.le_of_ble_eq_true rfl) ⟨by omega, by omega⟩ rfl ?_
    refine V_iconst C dX9_nodeGoes_38 ?_
    refine V_istore C dX9_nodeGoes_39 rfl (by decide) ?_
    have h := loop 32 0 none (by omega)
    rw [show ((0 : Nat) : Int) = 0 from rfl, ngP_0] at h
    exact h
  refine V_icmp_ne C 28 dX9_nodeGoes_21 (by decide) (by omega) (by omega) (fun z => ?_) (fun z => ?_)
  · rw [show fl = 0 by rw [← eF, flI, if_neg z]] at next
    refine V_iconst C dX9_nodeGoes_28 ?_
    exact next
  · rw [show fl = 1 by rw [← eF, flI, if_pos z]] at next
    refine V_iconst C dX9_nodeGoes_24 ?_
    refine V_goto C 29 dX9_nodeGoes_25 (by decide) ?_
    exact next
set_option maxRecDepth 20000 in
theorem ggX9_takesAway_X9_groupOf : GoodIn wsX9_takesAway wsX9_groupOf := goodIn_r _ [6, 1, 42, 43, 44, 45, 46, 47, 48, 49, 50, 51, 52, 53, 54, 55, 56, 57, 58, 59, 60, 61, 62, 63, 64, 65] (by decide +kernel) (by decide +kernel)
set_option maxRecDepth 20000 in
theorem gX9_takesAway_X9_groupOf : GoodIn wsX9_takesAway (wsV RX9 85 RX9 yX9_groupOf wsX9_groupOf) := goodIn_app (goodIn_of _ (by decide +kernel)) ggX9_takesAway_X9_groupOf
set_option maxRecDepth 20000 in
theorem ggX9_takesAway_X9_placeOf : GoodIn wsX9_takesAway wsX9_placeOf := goodIn_r _ [10, 1, 42, 43, 44, 45, 46, 47, 48, 49, 50, 51, 52, 53, 54, 55, 56, 57, 58, 59, 60, 61, 62, 63, 64, 65] (by decide +kernel) (by decide +kernel)
set_option maxRecDepth 20000 in
theorem gX9_takesAway_X9_placeOf : GoodIn wsX9_takesAway (wsV RX9 88 RX9 yX9_placeOf wsX9_placeOf) := goodIn_app (goodIn_of _ (by decide +kernel)) ggX9_takesAway_X9_placeOf
set_option maxRecDepth 20000 in
theorem ggX9_takesAway_X9_tabs : GoodIn wsX9_takesAway wsX9_tabs := goodIn_r _ [14, 1, 2, 3, 4, 5, 6, 42, 43, 44, 45, 46, 47, 48, 49, 50, 51, 52, 53, 54, 55, 56, 57, 58, 59, 60, 61, 62, 63, 64, 65] (by decide +kernel) (by decide +kernel)
set_option maxRecDepth 20000 in
theorem gX9_takesAway_X9_tabs : GoodIn wsX9_takesAway (wsV RX9 135 RX9 yX9_tabs wsX9_tabs) := goodIn_app (goodIn_of _ (by decide +kernel)) ggX9_takesAway_X9_tabs
set_option maxRecDepth 20000 in
theorem ggX9_takesAway_X9_nodeGoes : GoodIn wsX9_takesAway wsX9_nodeGoes := goodIn_r _ [18, 19, 20, 21, 5, 22, 1, 23, 24, 25, 26, 27, 28, 29, 30, 31, 32, 33, 34, 35, 36, 37, 42, 43, 44, 45, 46, 47, 48, 49, 50, 51, 52, 53, 54, 55, 56, 57, 58, 59, 60, 61, 62, 63, 64, 65] (by decide +kernel) (by decide +kernel)
set_option maxRecDepth 20000 in
theorem gX9_takesAway_X9_nodeGoes : GoodIn wsX9_takesAway (wsV RX9 138 RX9 yX9_nodeGoes wsX9_nodeGoes) := goodIn_app (goodIn_of _ (by decide +kernel)) ggX9_takesAway_X9_nodeGoes
set_option maxRecDepth 20000 in
theorem ggX9_takesAway_X9_of : GoodIn wsX9_takesAway wsX9_of := goodIn_r _ [22, 1, 42, 43, 44, 45, 46, 47, 48, 49, 50, 51, 52, 53, 54, 55, 56, 57, 58, 59, 60, 61, 62, 63, 64, 65] (by decide +kernel) (by decide +kernel)
set_option maxRecDepth 20000 in
theorem gX9_takesAway_X9_of : GoodIn wsX9_takesAway (wsV RX9 77 RX9 yX9_of wsX9_of) := goodIn_app (goodIn_of _ (by decide +kernel)) ggX9_takesAway_X9_of
set_option maxRecDepth 20000 in
theorem ggX9_takesAway_X9_tabOf : GoodIn wsX9_takesAway wsX9_tabOf := goodIn_r _ [41, 1, 2, 3, 4, 5, 6, 7, 8, 9, 10, 42, 43, 44, 45, 46, 47, 48, 49, 50, 51, 52, 53, 54, 55, 56, 57, 58, 59, 60, 61, 62, 63, 64, 65] (by decide +kernel) (by decide +kernel)
set_option maxRecDepth 20000 in
theorem gX9_takesAway_X9_tabOf : GoodIn wsX9_takesAway (wsV RX9 141 RX9 yX9_tabOf wsX9_tabOf) := goodIn_app (goodIn_of _ (by decide +kernel)) ggX9_takesAway_X9_tabOf
set_option maxRecDepth 20000 in
theorem ggX9_takesAway_X9_puts : GoodIn wsX9_takesAway wsX9_puts := goodIn_r _ [26, 1, 42, 43, 44, 45, 46, 47, 48, 49, 50, 51, 52, 53, 54, 55, 56, 57, 58, 59, 60, 61, 62, 63, 64, 65] (by decide +kernel) (by decide +kernel)
set_option maxRecDepth 20000 in
theorem gX9_takesAway_X9_puts : GoodIn wsX9_takesAway (wsV RX9 81 RX9 yX9_puts wsX9_puts) := goodIn_app (goodIn_of _ (by decide +kernel)) ggX9_takesAway_X9_puts
theorem dX9_takesAway_0 : decode cX9_takesAway 0 = .ok (.aload_n 0, 1) := by decide +kernel
theorem dX9_takesAway_1 : decode cX9_takesAway 1 = .ok (.iload_n 1, 1) := by decide +kernel
theorem dX9_takesAway_2 : decode cX9_takesAway 2 = .ok (.invokevirtual 85, 3) := by decide +kernel
theorem dX9_takesAway_5 : decode cX9_takesAway 5 = .ok (.istore_n 2, 1) := by decide +kernel
theorem dX9_takesAway_6 : decode cX9_takesAway 6 = .ok (.iload_n 2, 1) := by decide +kernel
theorem dX9_takesAway_7 : decode cX9_takesAway 7 = .ok (.iconst (-1), 1) := by decide +kernel
theorem dX9_takesAway_8 : decode cX9_takesAway 8 = .ok (.if_icmp .ne 4, 3) := by decide +kernel
theorem dX9_takesAway_11 : decode cX9_takesAway 11 = .ok (.return_, 1) := by decide +kernel
theorem dX9_takesAway_12 : decode cX9_takesAway 12 = .ok (.aload_n 0, 1) := by decide +kernel
theorem dX9_takesAway_13 : decode cX9_takesAway 13 = .ok (.iload_n 1, 1) := by decide +kernel
theorem dX9_takesAway_14 : decode cX9_takesAway 14 = .ok (.invokevirtual 88, 3) := by decide +kernel
theorem dX9_takesAway_17 : decode cX9_takesAway 17 = .ok (.istore_n 3, 1) := by decide +kernel
theorem dX9_takesAway_18 : decode cX9_takesAway 18 = .ok (.aload_n 0, 1) := by decide +kernel
theorem dX9_takesAway_19 : decode cX9_takesAway 19 = .ok (.getfield 7, 3) := by decide +kernel
theorem dX9_takesAway_22 : decode cX9_takesAway 22 = .ok (.sipush 323, 3) := by decide +kernel
theorem dX9_takesAway_25 : decode cX9_takesAway 25 = .ok (.iconst 2, 1) := by decide +kernel
theorem dX9_takesAway_26 : decode cX9_takesAway 26 = .ok (.iload_n 1, 1) := by decide +kernel
theorem dX9_takesAway_27 : decode cX9_takesAway 27 = .ok (.imul, 1) := by decide +kernel
theorem dX9_takesAway_28 : decode cX9_takesAway 28 = .ok (.iadd, 1) := by decide +kernel
theorem dX9_takesAway_29 : decode cX9_takesAway 29 = .ok (.iconst (-1), 1) := by decide +kernel
theorem dX9_takesAway_30 : decode cX9_takesAway 30 = .ok (.iastore, 1) := by decide +kernel
theorem dX9_takesAway_31 : decode cX9_takesAway 31 = .ok (.aload_n 0, 1) := by decide +kernel
theorem dX9_takesAway_32 : decode cX9_takesAway 32 = .ok (.getfield 7, 3) := by decide +kernel
theorem dX9_takesAway_35 : decode cX9_takesAway 35 = .ok (.sipush 323, 3) := by decide +kernel
theorem dX9_takesAway_38 : decode cX9_takesAway 38 = .ok (.iconst 2, 1) := by decide +kernel
theorem dX9_takesAway_39 : decode cX9_takesAway 39 = .ok (.iload_n 1, 1) := by decide +kernel
theorem dX9_takesAway_40 : decode cX9_takesAway 40 = .ok (.imul, 1) := by decide +kernel
theorem dX9_takesAway_41 : decode cX9_takesAway 41 = .ok (.iadd, 1) := by decide +kernel
theorem dX9_takesAway_42 : decode cX9_takesAway 42 = .ok (.iconst 1, 1) := by decide +kernel
theorem dX9_takesAway_43 : decode cX9_takesAway 43 = .ok (.iadd, 1) := by decide +kernel
theorem dX9_takesAway_44 : decode cX9_takesAway 44 = .ok (.iconst 0, 1) := by decide +kernel
theorem dX9_takesAway_45 : decode cX9_takesAway 45 = .ok (.iastore, 1) := by decide +kernel
theorem dX9_takesAway_46 : decode cX9_takesAway 46 = .ok (.iconst 0, 1) := by decide +kernel
theorem dX9_takesAway_47 : decode cX9_takesAway 47 = .ok (.istore 4, 2) := by decide +kernel
theorem dX9_takesAway_49 : decode cX9_takesAway 49 = .ok (.iload 4, 2) := by decide +kernel
theorem dX9_takesAway_51 : decode cX9_takesAway 51 = .ok (.aload_n 0, 1) := by decide +kernel
theorem dX9_takesAway_52 : decode cX9_takesAway 52 = .ok (.getfield 7, 3) := by decide +kernel
theorem dX9_takesAway_55 : decode cX9_takesAway 55 = .ok (.iconst 2, 1) := by decide +kernel
theorem dX9_takesAway_56 : decode cX9_takesAway 56 = .ok (.iaload, 1) := by decide +kernel
theorem dX9_takesAway_57 : decode cX9_takesAway 57 = .ok (.if_icmp .ge 52, 3) := by decide +kernel
theorem dX9_takesAway_60 : decode cX9_takesAway 60 = .ok (.aload_n 0, 1) := by decide +kernel
theorem dX9_takesAway_61 : decode cX9_takesAway 61 = .ok (.getfield 7, 3) := by decide +kernel
theorem dX9_takesAway_64 : decode cX9_takesAway 64 = .ok (.sipush 323, 3) := by decide +kernel
theorem dX9_takesAway_67 : decode cX9_takesAway 67 = .ok (.iconst 2, 1) := by decide +kernel
theorem dX9_takesAway_68 : decode cX9_takesAway 68 = .ok (.iload 4, 2) := by decide +kernel
theorem dX9_takesAway_70 : decode cX9_takesAway 70 = .ok (.imul, 1) := by decide +kernel
theorem dX9_takesAway_71 : decode cX9_takesAway 71 = .ok (.iadd, 1) := by decide +kernel
theorem dX9_takesAway_72 : decode cX9_takesAway 72 = .ok (.iconst 1, 1) := by decide +kernel
theorem dX9_takesAway_73 : decode cX9_takesAway 73 = .ok (.iadd, 1) := by decide +kernel
theorem dX9_takesAway_74 : decode cX9_takesAway 74 = .ok (.dup2, 1) := by decide +kernel
theorem dX9_takesAway_75 : decode cX9_takesAway 75 = .ok (.iaload, 1) := by decide +kernel
theorem dX9_takesAway_76 : decode cX9_takesAway 76 = .ok (.aload_n 0, 1) := by decide +kernel
theorem dX9_takesAway_77 : decode cX9_takesAway 77 = .ok (.iload 4, 2) := by decide +kernel
theorem dX9_takesAway_79 : decode cX9_takesAway 79 = .ok (.invokevirtual 85, 3) := by decide +kernel
theorem dX9_takesAway_82 : decode cX9_takesAway 82 = .ok (.iload_n 2, 1) := by decide +kernel
theorem dX9_takesAway_83 : decode cX9_takesAway 83 = .ok (.if_icmp .ne 17, 3) := by decide +kernel
theorem dX9_takesAway_86 : decode cX9_takesAway 86 = .ok (.aload_n 0, 1) := by decide +kernel
theorem dX9_takesAway_87 : decode cX9_takesAway 87 = .ok (.iload 4, 2) := by decide +kernel
theorem dX9_takesAway_89 : decode cX9_takesAway 89 = .ok (.invokevirtual 88, 3) := by decide +kernel
theorem dX9_takesAway_92 : decode cX9_takesAway 92 = .ok (.iload_n 3, 1) := by decide +kernel
theorem dX9_takesAway_93 : decode cX9_takesAway 93 = .ok (.if_icmp .le 7, 3) := by decide +kernel
theorem dX9_takesAway_96 : decode cX9_takesAway 96 = .ok (.iconst 1, 1) := by decide +kernel
theorem dX9_takesAway_97 : decode cX9_takesAway 97 = .ok (.goto 4, 3) := by decide +kernel
theorem dX9_takesAway_100 : decode cX9_takesAway 100 = .ok (.iconst 0, 1) := by decide +kernel
theorem dX9_takesAway_101 : decode cX9_takesAway 101 = .ok (.isub, 1) := by decide +kernel
theorem dX9_takesAway_102 : decode cX9_takesAway 102 = .ok (.iastore, 1) := by decide +kernel
theorem dX9_takesAway_103 : decode cX9_takesAway 103 = .ok (.iinc 4 1, 3) := by decide +kernel
theorem dX9_takesAway_106 : decode cX9_takesAway 106 = .ok (.goto (-57), 3) := by decide +kernel
theorem dX9_takesAway_109 : decode cX9_takesAway 109 = .ok (.aload_n 0, 1) := by decide +kernel
theorem dX9_takesAway_110 : decode cX9_takesAway 110 = .ok (.iload_n 2, 1) := by decide +kernel
theorem dX9_takesAway_111 : decode cX9_takesAway 111 = .ok (.invokevirtual 135, 3) := by decide +kernel
theorem dX9_takesAway_114 : decode cX9_takesAway 114 = .ok (.istore 4, 2) := by decide +kernel
theorem dX9_takesAway_116 : decode cX9_takesAway 116 = .ok (.iload 4, 2) := by decide +kernel
theorem dX9_takesAway_118 : decode cX9_takesAway 118 = .ok (.ifCond .ne 11, 3) := by decide +kernel
theorem dX9_takesAway_121 : decode cX9_takesAway 121 = .ok (.aload_n 0, 1) := by decide +kernel
theorem dX9_takesAway_122 : decode cX9_takesAway 122 = .ok (.iload_n 2, 1) := by decide +kernel
theorem dX9_takesAway_123 : decode cX9_takesAway 123 = .ok (.invokevirtual 138, 3) := by decide +kernel
theorem dX9_takesAway_126 : decode cX9_takesAway 126 = .ok (.goto 38, 3) := by decide +kernel
theorem dX9_takesAway_129 : decode cX9_takesAway 129 = .ok (.aload_n 0, 1) := by decide +kernel
theorem dX9_takesAway_130 : decode cX9_takesAway 130 = .ok (.iload_n 2, 1) := by decide +kernel
theorem dX9_takesAway_131 : decode cX9_takesAway 131 = .ok (.iconst 4, 1) := by decide +kernel
theorem dX9_takesAway_132 : decode cX9_takesAway 132 = .ok (.invokevirtual 77, 3) := by decide +kernel
theorem dX9_takesAway_135 : decode cX9_takesAway 135 = .ok (.iload_n 1, 1) := by decide +kernel
theorem dX9_takesAway_136 : decode cX9_takesAway 136 = .ok (.if_icmp .ne 28, 3) := by decide +kernel
theorem dX9_takesAway_139 : decode cX9_takesAway 139 = .ok (.aload_n 0, 1) := by decide +kernel
theorem dX9_takesAway_140 : decode cX9_takesAway 140 = .ok (.iload_n 2, 1) := by decide +kernel
theorem dX9_takesAway_141 : decode cX9_takesAway 141 = .ok (.iconst 4, 1) := by decide +kernel
theorem dX9_takesAway_142 : decode cX9_takesAway 142 = .ok (.aload_n 0, 1) := by decide +kernel
theorem dX9_takesAway_143 : decode cX9_takesAway 143 = .ok (.iload_n 2, 1) := by decide +kernel
theorem dX9_takesAway_144 : decode cX9_takesAway 144 = .ok (.iload_n 3, 1) := by decide +kernel
theorem dX9_takesAway_145 : decode cX9_takesAway 145 = .ok (.iload 4, 2) := by decide +kernel
theorem dX9_takesAway_147 : decode cX9_takesAway 147 = .ok (.if_icmp .ge 7, 3) := by decide +kernel
theorem dX9_takesAway_150 : decode cX9_takesAway 150 = .ok (.iload_n 3, 1) := by decide +kernel
theorem dX9_takesAway_151 : decode cX9_takesAway 151 = .ok (.goto 7, 3) := by decide +kernel
theorem dX9_takesAway_154 : decode cX9_takesAway 154 = .ok (.iload 4, 2) := by decide +kernel
theorem dX9_takesAway_156 : decode cX9_takesAway 156 = .ok (.iconst 1, 1) := by decide +kernel
theorem dX9_takesAway_157 : decode cX9_takesAway 157 = .ok (.isub, 1) := by decide +kernel
theorem dX9_takesAway_158 : decode cX9_takesAway 158 = .ok (.invokevirtual 141, 3) := by decide +kernel
theorem dX9_takesAway_161 : decode cX9_takesAway 161 = .ok (.invokevirtual 81, 3) := by decide +kernel
theorem dX9_takesAway_164 : decode cX9_takesAway 164 = .ok (.return_, 1) := by decide +kernel
theorem hin_X9_takesAway_X9 : ∀ w ∈ wsX90, w ∈ wsX9_takesAway := by decide +kernel
theorem lk_X9_takesAway_7 : Cond.fieldLink RX9 7 RX9 "s" "[I" ∈ wsX9_takesAway := by decide +kernel
theorem m_takesAway (hG : GP G) (hM : MoS S r) {N : Int} (hB : TB N T) (hN : 100 ≤ N ∧ N ≤ 1073740000) (hP : 0 ≤ mu (r + 1) 2 ∧ mu (r + 1) 2 ≤ 16) {x : Int} (hx : 0 ≤ x ∧ x < 16) (ho : okT T (mu (r + 1) 2) x) : Ct G l yX9_takesAway wsX9_takesAway 3 0 0 [.ref r, .int (I32 x)] S n (ptT mu r T) la (Dt none S n (ptT mu r (tkT T (mu (r + 1) 2) x)) la) := by
  have o9 := hM.1
  have b0 := hB.g hx
  have b1 := hB.q 10 (by decide) hx
  unfold tkT
  unfold okT at ho
  have hB1 : TB N (up (up T 9 x (-1)) 10 x 0) := (hB.upd _ _ (by omega) (by omega) (by omega)).upd _ _ (by omega) (by omega) (by omega)
  have hBA := tkA_TB hB hN.1 (mu (r + 1) 2) x
  refine Ct.ofV (cc := cX9_takesAway) (nL := 5) (ret := none) [some (.ref r), some (.int (I32 x)), none, none, none] hG (by decide) rfl (Nat.le_of_ble_eq_true rfl) rfl ?_
  rintro X rfl rfl C hcl hsl E
  refine V_aload_n C dX9_takesAway_0 rfl ?_
  refine V_iload_n C dX9_takesAway_1 rfl ?_
  refine V_callVD (nA := 1) C dX9_takesAway_2 (m_groupOf C.gp hM hx) gX9_takesAway_X9_groupOf rfl o9 rfl (by decide +kernel) rfl (by decide) (by decide) (Nat.le_of_ble_eq_true rfl) ⟨by omega, by omega⟩ rfl ?_
  refine V_istore_n C dX9_takesAway_5 rfl (by decide) ?_
  refine V_iload_n C dX9_takesAway_6 rfl ?_
  refine V_iconst C dX9_takesAway_7 ?_
  refine V_icmp_ne C 12 dX9_takesAway_8 (by decide) (by omega) (by omega) (fun z0 => ?_) (fun z0 => ?_)
  · rw [if_neg z0] at E
    have ho := ho z0
    have bt := tbT_b (tkA T (mu (r + 1) 2) x) hP (T 9 x)
    have last : ∀ w4, V X 109 [some (.ref r), some (.int (I32 x)), some (.int (I32 (T 9 x))), some (.int (I32 (T 10 x))), w4] [] S n (ptT mu r (tkA T (mu (r + 1) 2) x)) la 0 0 := by
      intro w4
      have b4 := hBA.n 4 (by decide) (i := T 9 x) (by omega)
      refine V_aload_n C dX9_takesAway_109 rfl ?_
      refine V_iload_n C dX9_takesAway_110 rfl ?_
      refine V_callVD (nA := 1) C dX9_takesAway_111 (m_tabs C.gp hM hBA (by omega) hP (by omega)) gX9_takesAway_X9_tabs rfl o9 rfl (by decide +kernel) rfl (by decide) (by decide) (Nat.le_of_ble_eq_true rfl) ⟨by omega, by omega⟩ rfl ?_
      generalize tbT (tkA T (mu (r + 1) 2) x) (mu (r + 1) 2) (T 9 x) = m at bt ho E
      refine V_istore C dX9_takesAway_114 rfl (by decide) ?_
      refine V_iload C dX9_takesAway_116 rfl ?_
      refine V_if_ne C 129 dX9_takesAway_118 (by decide) (by omega) (fun z1 => ?_) (fun z1 => ?_)
      · rw [if_neg z1] at E
        refine V_aload_n C dX9_takesAway_129 rfl ?_
        refine V_iload_n C dX9_takesAway_130 rfl ?_
        refine V_iconst C dX9_takesAway_131 ?_
        refine V_callVD (nA := 2) C dX9_takesAway_132 (m_of C.gp hM (by omega) 4 (by decide) rfl) gX9_takesAway_X9_of rfl o9 rfl (by decide +kernel) rfl (by decide) (by decide) (Nat.le_of_ble_eq_true rfl) ⟨by omega, by omega⟩ rfl ?_
        refine V_iload_n C dX9_takesAway_135 rfl ?_
        refine V_icmp_ne C 164 dX9_takesAway_136 (by decide) (by omega) (by omega) (fun z2 => ?_) (fun z2 => ?_)
        · rw [if_neg z2] at E
          refine V_return C E dX9_takesAway_164 (by omega) (by omega) ?_
          exact Dt_rfl
        · rw [if_pos z2] at E
          refine V_aload_n C dX9_takesAway_139 rfl ?_
          refine V_iload_n C dX9_takesAway_140 rfl ?_
          refine V_iconst C dX9_takesAway_141 ?_
          refine V_aload_n C dX9_takesAway_142 rfl ?_
          refine V_iload_n C dX9_takesAway_143 rfl ?_
          refine V_iload_n C dX9_takesAway_144 rfl ?_
          refine V_iload C dX9_takesAway_145 rfl ?_
          refine V_icmp_ge C 154 dX9_takesAway_147 (by decide) (by omega) (by omega) (fun z3 => ?_) (fun z3 => ?_)
          · rw [if_neg (show ¬ T 10 x < m by omega)] at E
            refine V_iload C dX9_takesAway_154 rfl ?_
            refine V_iconst C dX9_takesAway_156 ?_
            refine V_isub C dX9_takesAway_157 ?_
            refine V_callVD (nA := 2) C dX9_takesAway_158 (m_tabOf C.gp hM hBA (by omega) hP (by omega) (by omega)) gX9_takesAway_X9_tabOf rfl o9 rfl (by decide +kernel) rfl (by decide) (by decide) (Nat.le_of_ble_eq_true rfl) ⟨by omega, by omega⟩ rfl ?_
            refine V_callVD (nA := 3) C dX9_takesAway_161 (m_puts C.gp hM (by omega) 4 (by decide) rfl) gX9_takesAway_X9_puts rfl o9 rfl (by decide +kernel) rfl (by decide) (by decide) (Nat.le_of_ble_eq_true rfl) ⟨by omega, by omega⟩ rfl ?_
            refine V_return C E dX9_takesAway_164 (by omega) (by omega) ?_
            exact Dt_rfl
          · rw [if_pos (show T 10 x < m by omega)] at E
            refine V_iload_n C dX9_takesAway_150 rfl ?_
            refine V_goto C 158 dX9_takesAway_151 (by decide) ?_
            refine V_callVD (nA := 2) C dX9_takesAway_158 (m_tabOf C.gp hM hBA (by omega) hP (by omega) (by omega)) gX9_takesAway_X9_tabOf rfl o9 rfl (by decide +kernel) rfl (by decide) (by decide) (Nat.le_of_ble_eq_true rfl) ⟨by omega, by omega⟩ rfl ?_
            refine V_callVD (nA := 3) C dX9_takesAway_161 (m_puts C.gp hM (by omega) 4 (by decide) rfl) gX9_takesAway_X9_puts rfl o9 rfl (by decide +kernel) rfl (by decide) (by decide) (Nat.le_of_ble_eq_true rfl) ⟨by omega, by omega⟩ rfl ?_
            refine V_return C E dX9_takesAway_164 (by omega) (by omega) ?_
            exact Dt_rfl
      · rw [if_pos z1] at E
        refine V_aload_n C dX9_takesAway_121 rfl ?_
        refine V_iload_n C dX9_takesAway_122 rfl ?_
        refine V_callVD (nA := 1) C dX9_takesAway_123 (m_nodeGoes C.gp hM hBA (by omega) (by omega) (ho z1)) gX9_takesAway_X9_nodeGoes rfl o9 rfl (by decide +kernel) rfl (by decide) (by decide) (Nat.le_of_ble_eq_true rfl) ⟨by omega, by omega⟩ rfl ?_
        refine V_goto C 164 dX9_takesAway_126 (by decide) ?_
        refine V_return C E dX9_takesAway_164 (by omega) (by omega) ?_
        exact Dt_rfl
    have loop : ∀ (d j : Nat), j + d = (mu (r + 1) 2).toNat → V X 49 [some (.ref r), some (.int (I32 x)), some (.int (I32 (T 9 x))), some (.int (I32 (T 10 x))), some (.int (I32 (j : Int)))] [] S n (ptT mu r (tkP (up (up T 9 x (-1)) 10 x 0) (T 9 x) (T 10 x) j)) la 0 0 := by
      intro d
      induction d with
      | zero =>
        intro j h1
        have hj : j = (mu (r + 1) 2).toNat := by omega
        have h9 := last (some (.int (I32 (j : Int))))
        unfold tkA at h9
        rw [← Int.toNat_of_nonneg hP.1, ← hj] at h9
        refine V_iload C dX9_takesAway_49 rfl ?_
        refine V_aload_n C dX9_takesAway_51 rfl ?_
        refine V_getR C 0 dX9_takesAway_52 o9 rfl hin_X9_takesAway_X9 (by decide) lk_X9_takesAway_7 rfl rfl ?_
        refine V_iconst C dX9_takesAway_55 ?_
        refine V_ialdJ C dX9_takesAway_56 hM.2.1 (by first | assumption | decide) (by omega) (pt_lo (by decide)) ?_
        refine V_icmp_ge C 109 dX9_takesAway_57 (by decide) (by omega) (by omega) (fun z => ?_) (fun z => ?_)
        · exact h9
        · exact absurd z (by omega)
      | succ d ih =>
        intro j h1
        have hB2 := tkP_TB hB1 (T 9 x) (T 10 x) j
        have c9 := hB2.g (i := (j : Int)) (by omega)
        have c10 := hB2.q 10 (by decide) (i := (j : Int)) (by omega)
        rw [tkP_hi _ _ _ _ _ (by omega)] at c9 c10
        have h9 := ih (j + 1) (by omega)
        refine V_iload C dX9_takesAway_49 rfl ?_
        refine V_aload_n C dX9_takesAway_51 rfl ?_
        refine V_getR C 0 dX9_takesAway_52 o9 rfl hin_X9_takesAway_X9 (by decide) lk_X9_takesAway_7 rfl rfl ?_
        refine V_iconst C dX9_takesAway_55 ?_
        refine V_ialdJ C dX9_takesAway_56 hM.2.1 (by first | assumption | decide) (by omega) (pt_lo (by decide)) ?_
        refine V_icmp_ge C 109 dX9_takesAway_57 (by decide) (by omega) (by omega) (fun z57 => ?_) (fun z57 => ?_)
        · exact absurd z57 (by first | omega | decide)
        · refine V_aload_n C dX9_takesAway_60 rfl ?_
          refine V_getR C 0 dX9_takesAway_61 o9 rfl hin_X9_takesAway_X9 (by decide) lk_X9_takesAway_7 rfl rfl ?_
          refine V_sipush C dX9_takesAway_64 (by decide +kernel) ?_
          refine V_iconst C dX9_takesAway_67 ?_
          refine V_iload C dX9_takesAway_68 rfl ?_
          refine V_imul C dX9_takesAway_70 ?_
          refine V_iadd C dX9_takesAway_71 ?_
          refine V_iconst C dX9_takesAway_72 ?_
          refine V_iadd C dX9_takesAway_73 ?_
          refine V_dup2 C dX9_takesAway_74 rfl rfl ?_
          refine V_ialdJ C dX9_takesAway_75 hM.2.1 (by first | assumption | decide) (by omega) (pt_p (by omega)) ?_
          rw [tkP_hi _ _ _ _ _ (by omega)]
          refine V_aload_n C dX9_takesAway_76 rfl ?_
          refine V_iload C dX9_takesAway_77 rfl ?_
          refine V_callVD (nA := 1) C dX9_takesAway_79 (m_groupOf C.gp hM (by omega)) gX9_takesAway_X9_groupOf rfl o9 rfl (by decide +kernel) rfl (by decide) (by decide) (Nat.le_of_ble_eq_true rfl) ⟨by omega, by omega⟩ rfl ?_
          rw [tkP_hi _ _ _ _ _ (by omega)]
          refine V_iload_n C dX9_takesAway_82 rfl ?_
          refine V_icmp_ne C 100 dX9_takesAway_83 (by decide) (by omega) (by omega) (fun z83 => ?_) (fun z83 => ?_)
          · refine V_iconst C dX9_takesAway_100 ?_
            refine V_isub C dX9_takesAway_101 ?_
            refine V_iastJ C dX9_takesAway_102 hM.2.1 (by first | assumption | decide) (by omega) (ptu_p (by omega)) ?_
            first | rw [tkP_yes (by omega) (by omega) (by omega)] | rw [tkP_no (by omega)]
            refine V_iinc C dX9_takesAway_103 rfl rfl (by decide) ?_
            refine V_goto C 49 dX9_takesAway_106 (by decide) ?_
            exact h9
          · refine V_aload_n C dX9_takesAway_86 rfl ?_
            refine V_iload C dX9_takesAway_87 rfl ?_
            refine V_callVD (nA := 1) C dX9_takesAway_89 (m_placeOf C.gp hM (by omega)) gX9_takesAway_X9_placeOf rfl o9 rfl (by decide +kernel) rfl (by decide) (by decide) (Nat.le_of_ble_eq_true rfl) ⟨by omega, by omega⟩ rfl ?_
            rw [tkP_hi _ _ _ _ _ (by omega)]
            refine V_iload_n C dX9_takesAway_92 rfl ?_
            refine V_icmp_le C 100 dX9_takesAway_93 (by decide) (by omega) (by omega) (fun z93 => ?_) (fun z93 => ?_)
            · refine V_iconst C dX9_takesAway_100 ?_
              refine V_isub C dX9_takesAway_101 ?_
              refine V_iastJ C dX9_takesAway_102 hM.2.1 (by first | assumption | decide) (by omega) (ptu_p (by omega)) ?_
              first | rw [tkP_yes (by omega) (by omega) (by omega)] | rw [tkP_no (by omega)]
              refine V_iinc C dX9_takesAway_103 rfl rfl (by decide) ?_
              refine V_goto C 49 dX9_takesAway_106 (by decide) ?_
              exact h9
            · refine V_iconst C dX9_takesAway_96 ?_
              refine V_goto C 101 dX9_takesAway_97 (by decide) ?_
              refine V_isub C dX9_takesAway_101 ?_
              refine V_iastJ C dX9_takesAway_102 hM.2.1 (by first | assumption | decide) (by omega) (ptu_p (by omega)) ?_
              first | rw [tkP_yes (by omega) (by omega) (by omega)] | rw [tkP_no (by omega)]
              refine V_iinc C dX9_takesAway_103 rfl rfl (by decide) ?_
              refine V_goto C 49 dX9_takesAway_106 (by decide) ?_
              exact h9
    refine V_aload_n C dX9_takesAway_12 rfl ?_
    refine V_iload_n C dX9_takesAway_13 rfl ?_
    refine V_callVD (nA := 1) C dX9_takesAway_14 (m_placeOf C.gp hM hx) gX9_takesAway_X9_placeOf rfl o9 rfl (by decide +kernel) rfl (by decide) (by decide) (Nat.le_of_ble_eq_true rfl) ⟨by omega, by omega⟩ rfl ?_
    refine V_istore_n C dX9_takesAway_17 rfl (by decide) ?_
    refine V_aload_n C dX9_takesAway_18 rfl ?_
    refine V_getR C 0 dX9_takesAway_19 o9 rfl hin_X9_takesAway_X9 (by decide) lk_X9_takesAway_7 rfl rfl ?_
    refine V_sipush C dX9_takesAway_22 (by decide +kernel) ?_
    refine V_iconst C dX9_takesAway_25 ?_
    refine V_iload_n C dX9_takesAway_26 rfl ?_
    refine V_imul C dX9_takesAway_27 ?_
    refine V_iadd C dX9_takesAway_28 ?_
    refine V_iconst C dX9_takesAway_29 ?_
    refine V_iastJ C dX9_takesAway_30 hM.2.1 (by first | assumption | decide) (by omega) (ptu_g hx) ?_
    refine V_aload_n C dX9_takesAway_31 rfl ?_
    refine V_getR C 0 dX9_takesAway_32 o9 rfl hin_X9_takesAway_X9 (by decide) lk_X9_takesAway_7 rfl rfl ?_
    refine V_sipush C dX9_takesAway_35 (by decide +kernel) ?_
    refine V_iconst C dX9_takesAway_38 ?_
    refine V_iload_n C dX9_takesAway_39 rfl ?_
    refine V_imul C dX9_takesAway_40 ?_
    refine V_iadd C dX9_takesAway_41 ?_
    refine V_iconst C dX9_takesAway_42 ?_
    refine V_iadd C dX9_takesAway_43 ?_
    refine V_iconst C dX9_takesAway_44 ?_
    refine V_iastJ C dX9_takesAway_45 hM.2.1 (by first | assumption | decide) (by omega) (ptu_p hx) ?_
    refine V_iconst C dX9_takesAway_46 ?_
    refine V_istore C dX9_takesAway_47 rfl (by decide) ?_
    have h := loop (mu (r + 1) 2).toNat 0 (by omega)
    rw [show ((0 : Nat) : Int) = 0 from rfl, tkP_0] at h
    exact h
  · rw [if_pos z0] at E
    refine V_return C E dX9_takesAway_11 (by omega) (by omega) ?_
    exact Dt_rfl
set_option maxRecDepth 20000 in
theorem ggX9_newGroup_X9_freeNode : GoodIn wsX9_newGroup wsX9_freeNode := goodIn_r _ [6, 7, 8, 9, 5, 10, 1, 11, 12, 13, 14, 15, 16, 17, 18, 19, 20, 21, 22, 23, 24, 25, 26, 27, 28, 29, 30, 31, 32, 33, 34, 35, 36, 37, 38] (by decide +kernel) (by decide +kernel)
set_option maxRecDepth 20000 in
theorem gX9_newGroup_X9_freeNode : GoodIn wsX9_newGroup (wsV RX9 144 RX9 yX9_freeNode wsX9_freeNode) := goodIn_app (goodIn_of _ (by decide +kernel)) ggX9_newGroup_X9_freeNode
set_option maxRecDepth 20000 in
theorem ggX9_newGroup_X9_puts : GoodIn wsX9_newGroup wsX9_puts := goodIn_r _ [14, 1, 15, 16, 17, 18, 19, 20, 21, 22, 23, 24, 25, 26, 27, 28, 29, 30, 31, 32, 33, 34, 35, 36, 37, 38] (by decide +kernel) (by decide +kernel)
set_option maxRecDepth 20000 in
theorem gX9_newGroup_X9_puts : GoodIn wsX9_newGroup (wsV RX9 81 RX9 yX9_puts wsX9_puts) := goodIn_app (goodIn_of _ (by decide +kernel)) ggX9_newGroup_X9_puts
theorem dX9_newGroup_0 : decode cX9_newGroup 0 = .ok (.aload_n 0, 1) := by decide +kernel
theorem dX9_newGroup_1 : decode cX9_newGroup 1 = .ok (.invokevirtual 144, 3) := by decide +kernel
theorem dX9_newGroup_4 : decode cX9_newGroup 4 = .ok (.istore_n 3, 1) := by decide +kernel
theorem dX9_newGroup_5 : decode cX9_newGroup 5 = .ok (.aload_n 0, 1) := by decide +kernel
theorem dX9_newGroup_6 : decode cX9_newGroup 6 = .ok (.iload_n 3, 1) := by decide +kernel
theorem dX9_newGroup_7 : decode cX9_newGroup 7 = .ok (.iconst 0, 1) := by decide +kernel
theorem dX9_newGroup_8 : decode cX9_newGroup 8 = .ok (.iload_n 2, 1) := by decide +kernel
theorem dX9_newGroup_9 : decode cX9_newGroup 9 = .ok (.invokevirtual 81, 3) := by decide +kernel
theorem dX9_newGroup_12 : decode cX9_newGroup 12 = .ok (.aload_n 0, 1) := by decide +kernel
theorem dX9_newGroup_13 : decode cX9_newGroup 13 = .ok (.iload_n 3, 1) := by decide +kernel
theorem dX9_newGroup_14 : decode cX9_newGroup 14 = .ok (.iconst 1, 1) := by decide +kernel
theorem dX9_newGroup_15 : decode cX9_newGroup 15 = .ok (.iconst (-1), 1) := by decide +kernel
theorem dX9_newGroup_16 : decode cX9_newGroup 16 = .ok (.invokevirtual 81, 3) := by decide +kernel
theorem dX9_newGroup_19 : decode cX9_newGroup 19 = .ok (.aload_n 0, 1) := by decide +kernel
theorem dX9_newGroup_20 : decode cX9_newGroup 20 = .ok (.iload_n 3, 1) := by decide +kernel
theorem dX9_newGroup_21 : decode cX9_newGroup 21 = .ok (.iconst 3, 1) := by decide +kernel
theorem dX9_newGroup_22 : decode cX9_newGroup 22 = .ok (.iconst 1, 1) := by decide +kernel
theorem dX9_newGroup_23 : decode cX9_newGroup 23 = .ok (.invokevirtual 81, 3) := by decide +kernel
theorem dX9_newGroup_26 : decode cX9_newGroup 26 = .ok (.aload_n 0, 1) := by decide +kernel
theorem dX9_newGroup_27 : decode cX9_newGroup 27 = .ok (.iload_n 3, 1) := by decide +kernel
theorem dX9_newGroup_28 : decode cX9_newGroup 28 = .ok (.iconst 4, 1) := by decide +kernel
theorem dX9_newGroup_29 : decode cX9_newGroup 29 = .ok (.iload_n 1, 1) := by decide +kernel
theorem dX9_newGroup_30 : decode cX9_newGroup 30 = .ok (.invokevirtual 81, 3) := by decide +kernel
theorem dX9_newGroup_33 : decode cX9_newGroup 33 = .ok (.aload_n 0, 1) := by decide +kernel
theorem dX9_newGroup_34 : decode cX9_newGroup 34 = .ok (.getfield 7, 3) := by decide +kernel
theorem dX9_newGroup_37 : decode cX9_newGroup 37 = .ok (.sipush 323, 3) := by decide +kernel
theorem dX9_newGroup_40 : decode cX9_newGroup 40 = .ok (.iconst 2, 1) := by decide +kernel
theorem dX9_newGroup_41 : decode cX9_newGroup 41 = .ok (.iload_n 1, 1) := by decide +kernel
theorem dX9_newGroup_42 : decode cX9_newGroup 42 = .ok (.imul, 1) := by decide +kernel
theorem dX9_newGroup_43 : decode cX9_newGroup 43 = .ok (.iadd, 1) := by decide +kernel
theorem dX9_newGroup_44 : decode cX9_newGroup 44 = .ok (.iload_n 3, 1) := by decide +kernel
theorem dX9_newGroup_45 : decode cX9_newGroup 45 = .ok (.iastore, 1) := by decide +kernel
theorem dX9_newGroup_46 : decode cX9_newGroup 46 = .ok (.aload_n 0, 1) := by decide +kernel
theorem dX9_newGroup_47 : decode cX9_newGroup 47 = .ok (.getfield 7, 3) := by decide +kernel
theorem dX9_newGroup_50 : decode cX9_newGroup 50 = .ok (.sipush 323, 3) := by decide +kernel
theorem dX9_newGroup_53 : decode cX9_newGroup 53 = .ok (.iconst 2, 1) := by decide +kernel
theorem dX9_newGroup_54 : decode cX9_newGroup 54 = .ok (.iload_n 1, 1) := by decide +kernel
theorem dX9_newGroup_55 : decode cX9_newGroup 55 = .ok (.imul, 1) := by decide +kernel
theorem dX9_newGroup_56 : decode cX9_newGroup 56 = .ok (.iadd, 1) := by decide +kernel
theorem dX9_newGroup_57 : decode cX9_newGroup 57 = .ok (.iconst 1, 1) := by decide +kernel
theorem dX9_newGroup_58 : decode cX9_newGroup 58 = .ok (.iadd, 1) := by decide +kernel
theorem dX9_newGroup_59 : decode cX9_newGroup 59 = .ok (.iconst 0, 1) := by decide +kernel
theorem dX9_newGroup_60 : decode cX9_newGroup 60 = .ok (.iastore, 1) := by decide +kernel
theorem dX9_newGroup_61 : decode cX9_newGroup 61 = .ok (.iload_n 3, 1) := by decide +kernel
theorem dX9_newGroup_62 : decode cX9_newGroup 62 = .ok (.ireturn, 1) := by decide +kernel
theorem hin_X9_newGroup_X9 : ∀ w ∈ wsX90, w ∈ wsX9_newGroup := by decide +kernel
theorem lk_X9_newGroup_7 : Cond.fieldLink RX9 7 RX9 "s" "[I" ∈ wsX9_newGroup := by decide +kernel
theorem m_newGroup (hG : GP G) (hM : MoS S r) {N : Int} (hB : TB N T) (hN : N ≤ 1073740000) {x k : Int} (hx : 0 ≤ x ∧ x < 16) (hf : frT T ≠ -1) : Ct G l yX9_newGroup wsX9_newGroup 2 0 0 [.ref r, .int (I32 x), .int (I32 k)] S n (ptT mu r T) la (Dt (some (.int (I32 (frT T)))) S n (ptT mu r (nwT T x k)) la) := by
  have o9 := hM.1
  have bf := frT_b T
  refine Ct.ofV (cc := cX9_newGroup) (nL := 4) (ret := (some .int)) [some (.ref r), some (.int (I32 x)), some (.int (I32 k)), none] hG (by decide) rfl (Nat.le_of_ble_eq_true rfl) rfl ?_
  rintro X rfl rfl C hcl hsl E
  refine V_aload_n C dX9_newGroup_0 rfl ?_
  refine V_callVD (nA := 0) C dX9_newGroup_1 (m_freeNode C.gp hM hB (by omega) hf) gX9_newGroup_X9_freeNode rfl o9 rfl (by decide +kernel) rfl (by decide) (by decide) (Nat.le_of_ble_eq_true rfl) ⟨by omega, by omega⟩ rfl ?_
  refine V_istore_n C dX9_newGroup_4 rfl (by decide) ?_
  refine V_aload_n C dX9_newGroup_5 rfl ?_
  refine V_iload_n C dX9_newGroup_6 rfl ?_
  refine V_iconst C dX9_newGroup_7 ?_
  refine V_iload_n C dX9_newGroup_8 rfl ?_
  refine V_callVD (nA := 3) C dX9_newGroup_9 (m_puts C.gp hM (by omega) 0 (by decide) rfl) gX9_newGroup_X9_puts rfl o9 rfl (by decide +kernel) rfl (by decide) (by decide) (Nat.le_of_ble_eq_true rfl) ⟨by omega, by omega⟩ rfl ?_
  refine V_aload_n C dX9_newGroup_12 rfl ?_
  refine V_iload_n C dX9_newGroup_13 rfl ?_
  refine V_iconst C dX9_newGroup_14 ?_
  refine V_iconst C dX9_newGroup_15 ?_
  refine V_callVD (nA := 3) C dX9_newGroup_16 (m_puts C.gp hM (by omega) 1 (by decide) rfl) gX9_newGroup_X9_puts rfl o9 rfl (by decide +kernel) rfl (by decide) (by decide) (Nat.le_of_ble_eq_true rfl) ⟨by omega, by omega⟩ rfl ?_
  refine V_aload_n C dX9_newGroup_19 rfl ?_
  refine V_iload_n C dX9_newGroup_20 rfl ?_
  refine V_iconst C dX9_newGroup_21 ?_
  refine V_iconst C dX9_newGroup_22 ?_
  refine V_callVD (nA := 3) C dX9_newGroup_23 (m_puts C.gp hM (by omega) 3 (by decide) rfl) gX9_newGroup_X9_puts rfl o9 rfl (by decide +kernel) rfl (by decide) (by decide) (Nat.le_of_ble_eq_true rfl) ⟨by omega, by omega⟩ rfl ?_
  refine V_aload_n C dX9_newGroup_26 rfl ?_
  refine V_iload_n C dX9_newGroup_27 rfl ?_
  refine V_iconst C dX9_newGroup_28 ?_
  refine V_iload_n C dX9_newGroup_29 rfl ?_
  refine V_callVD (nA := 3) C dX9_newGroup_30 (m_puts C.gp hM (by omega) 4 (by decide) rfl) gX9_newGroup_X9_puts rfl o9 rfl (by decide +kernel) rfl (by decide) (by decide) (Nat.le_of_ble_eq_true rfl) ⟨by omega, by omega⟩ rfl ?_
  refine V_aload_n C dX9_newGroup_33 rfl ?_
  refine V_getR C 0 dX9_newGroup_34 o9 rfl hin_X9_newGroup_X9 (by decide) lk_X9_newGroup_7 rfl rfl ?_
  refine V_sipush C dX9_newGroup_37 (by decide +kernel) ?_
  refine V_iconst C dX9_newGroup_40 ?_
  refine V_iload_n C dX9_newGroup_41 rfl ?_
  refine V_imul C dX9_newGroup_42 ?_
  refine V_iadd C dX9_newGroup_43 ?_
  refine V_iload_n C dX9_newGroup_44 rfl ?_
  refine V_iastJ C dX9_newGroup_45 hM.2.1 (by first | assumption | decide) (by omega) (ptu_g hx) ?_
  refine V_aload_n C dX9_newGroup_46 rfl ?_
  refine V_getR C 0 dX9_newGroup_47 o9 rfl hin_X9_newGroup_X9 (by decide) lk_X9_newGroup_7 rfl rfl ?_
  refine V_sipush C dX9_newGroup_50 (by decide +kernel) ?_
  refine V_iconst C dX9_newGroup_53 ?_
  refine V_iload_n C dX9_newGroup_54 rfl ?_
  refine V_imul C dX9_newGroup_55 ?_
  refine V_iadd C dX9_newGroup_56 ?_
  refine V_iconst C dX9_newGroup_57 ?_
  refine V_iadd C dX9_newGroup_58 ?_
  refine V_iconst C dX9_newGroup_59 ?_
  refine V_iastJ C dX9_newGroup_60 hM.2.1 (by first | assumption | decide) (by omega) (ptu_p hx) ?_
  refine V_iload_n C dX9_newGroup_61 rfl ?_
  refine V_ireturn C E dX9_newGroup_62 (by omega) (by omega) ?_
  exact Dt_rfl
set_option maxRecDepth 20000 in
theorem ggX9_comesIn_X9_of : GoodIn wsX9_comesIn wsX9_of := goodIn_r _ [5, 6, 14, 15, 16, 17, 18, 19, 20, 21, 22, 23, 24, 25, 26, 27, 28, 29, 30, 31, 32, 33, 34, 35, 36, 37] (by decide +kernel) (by decide +kernel)
set_option maxRecDepth 20000 in
theorem gX9_comesIn_X9_of : GoodIn wsX9_comesIn (wsV RX9 77 RX9 yX9_of wsX9_of) := goodIn_app (goodIn_of _ (by decide +kernel)) ggX9_comesIn_X9_of
set_option maxRecDepth 20000 in
theorem ggX9_comesIn_X9_in : GoodIn wsX9_comesIn wsX9_in := goodIn_r _ [9] (by decide +kernel) (by decide +kernel)
set_option maxRecDepth 20000 in
theorem gX9_comesIn_X9_in : GoodIn wsX9_comesIn (va_wsS RX9 73 yX9_in wsX9_in) := goodIn_app (goodIn_of _ (by decide +kernel)) ggX9_comesIn_X9_in
set_option maxRecDepth 20000 in
theorem ggX9_comesIn_X9_puts : GoodIn wsX9_comesIn wsX9_puts := goodIn_r _ [13, 6, 14, 15, 16, 17, 18, 19, 20, 21, 22, 23, 24, 25, 26, 27, 28, 29, 30, 31, 32, 33, 34, 35, 36, 37] (by decide +kernel) (by decide +kernel)
set_option maxRecDepth 20000 in
theorem gX9_comesIn_X9_puts : GoodIn wsX9_comesIn (wsV RX9 81 RX9 yX9_puts wsX9_puts) := goodIn_app (goodIn_of _ (by decide +kernel)) ggX9_comesIn_X9_puts
theorem dX9_comesIn_0 : decode cX9_comesIn 0 = .ok (.iconst 0, 1) := by decide +kernel
theorem dX9_comesIn_1 : decode cX9_comesIn 1 = .ok (.istore 5, 2) := by decide +kernel
theorem dX9_comesIn_3 : decode cX9_comesIn 3 = .ok (.iload 5, 2) := by decide +kernel
theorem dX9_comesIn_5 : decode cX9_comesIn 5 = .ok (.bipush 32, 2) := by decide +kernel
theorem dX9_comesIn_7 : decode cX9_comesIn 7 = .ok (.if_icmp .ge 68, 3) := by decide +kernel
theorem dX9_comesIn_10 : decode cX9_comesIn 10 = .ok (.aload_n 0, 1) := by decide +kernel
theorem dX9_comesIn_11 : decode cX9_comesIn 11 = .ok (.iload 5, 2) := by decide +kernel
theorem dX9_comesIn_13 : decode cX9_comesIn 13 = .ok (.iconst 0, 1) := by decide +kernel
theorem dX9_comesIn_14 : decode cX9_comesIn 14 = .ok (.invokevirtual 77, 3) := by decide +kernel
theorem dX9_comesIn_17 : decode cX9_comesIn 17 = .ok (.iconst 1, 1) := by decide +kernel
theorem dX9_comesIn_18 : decode cX9_comesIn 18 = .ok (.iconst 3, 1) := by decide +kernel
theorem dX9_comesIn_19 : decode cX9_comesIn 19 = .ok (.invokestatic 73, 3) := by decide +kernel
theorem dX9_comesIn_22 : decode cX9_comesIn 22 = .ok (.ifCond .eq 47, 3) := by decide +kernel
theorem dX9_comesIn_25 : decode cX9_comesIn 25 = .ok (.iload 5, 2) := by decide +kernel
theorem dX9_comesIn_27 : decode cX9_comesIn 27 = .ok (.iload_n 2, 1) := by decide +kernel
theorem dX9_comesIn_28 : decode cX9_comesIn 28 = .ok (.if_icmp .eq 41, 3) := by decide +kernel
theorem dX9_comesIn_31 : decode cX9_comesIn 31 = .ok (.aload_n 0, 1) := by decide +kernel
theorem dX9_comesIn_32 : decode cX9_comesIn 32 = .ok (.iload 5, 2) := by decide +kernel
theorem dX9_comesIn_34 : decode cX9_comesIn 34 = .ok (.iconst 1, 1) := by decide +kernel
theorem dX9_comesIn_35 : decode cX9_comesIn 35 = .ok (.invokevirtual 77, 3) := by decide +kernel
theorem dX9_comesIn_38 : decode cX9_comesIn 38 = .ok (.iload_n 1, 1) := by decide +kernel
theorem dX9_comesIn_39 : decode cX9_comesIn 39 = .ok (.if_icmp .ne 30, 3) := by decide +kernel
theorem dX9_comesIn_42 : decode cX9_comesIn 42 = .ok (.aload_n 0, 1) := by decide +kernel
theorem dX9_comesIn_43 : decode cX9_comesIn 43 = .ok (.iload 5, 2) := by decide +kernel
theorem dX9_comesIn_45 : decode cX9_comesIn 45 = .ok (.iconst 2, 1) := by decide +kernel
theorem dX9_comesIn_46 : decode cX9_comesIn 46 = .ok (.invokevirtual 77, 3) := by decide +kernel
theorem dX9_comesIn_49 : decode cX9_comesIn 49 = .ok (.iload_n 3, 1) := by decide +kernel
theorem dX9_comesIn_50 : decode cX9_comesIn 50 = .ok (.if_icmp .lt 19, 3) := by decide +kernel
theorem dX9_comesIn_53 : decode cX9_comesIn 53 = .ok (.aload_n 0, 1) := by decide +kernel
theorem dX9_comesIn_54 : decode cX9_comesIn 54 = .ok (.iload 5, 2) := by decide +kernel
theorem dX9_comesIn_56 : decode cX9_comesIn 56 = .ok (.iconst 2, 1) := by decide +kernel
theorem dX9_comesIn_57 : decode cX9_comesIn 57 = .ok (.aload_n 0, 1) := by decide +kernel
theorem dX9_comesIn_58 : decode cX9_comesIn 58 = .ok (.iload 5, 2) := by decide +kernel
theorem dX9_comesIn_60 : decode cX9_comesIn 60 = .ok (.iconst 2, 1) := by decide +kernel
theorem dX9_comesIn_61 : decode cX9_comesIn 61 = .ok (.invokevirtual 77, 3) := by decide +kernel
theorem dX9_comesIn_64 : decode cX9_comesIn 64 = .ok (.iconst 1, 1) := by decide +kernel
theorem dX9_comesIn_65 : decode cX9_comesIn 65 = .ok (.iadd, 1) := by decide +kernel
theorem dX9_comesIn_66 : decode cX9_comesIn 66 = .ok (.invokevirtual 81, 3) := by decide +kernel
theorem dX9_comesIn_69 : decode cX9_comesIn 69 = .ok (.iinc 5 1, 3) := by decide +kernel
theorem dX9_comesIn_72 : decode cX9_comesIn 72 = .ok (.goto (-69), 3) := by decide +kernel
theorem dX9_comesIn_75 : decode cX9_comesIn 75 = .ok (.aload_n 0, 1) := by decide +kernel
theorem dX9_comesIn_76 : decode cX9_comesIn 76 = .ok (.iload_n 2, 1) := by decide +kernel
theorem dX9_comesIn_77 : decode cX9_comesIn 77 = .ok (.iconst 1, 1) := by decide +kernel
theorem dX9_comesIn_78 : decode cX9_comesIn 78 = .ok (.iload_n 1, 1) := by decide +kernel
theorem dX9_comesIn_79 : decode cX9_comesIn 79 = .ok (.invokevirtual 81, 3) := by decide +kernel
theorem dX9_comesIn_82 : decode cX9_comesIn 82 = .ok (.aload_n 0, 1) := by decide +kernel
theorem dX9_comesIn_83 : decode cX9_comesIn 83 = .ok (.iload_n 2, 1) := by decide +kernel
theorem dX9_comesIn_84 : decode cX9_comesIn 84 = .ok (.iconst 2, 1) := by decide +kernel
theorem dX9_comesIn_85 : decode cX9_comesIn 85 = .ok (.iload_n 3, 1) := by decide +kernel
theorem dX9_comesIn_86 : decode cX9_comesIn 86 = .ok (.invokevirtual 81, 3) := by decide +kernel
theorem dX9_comesIn_89 : decode cX9_comesIn 89 = .ok (.aload_n 0, 1) := by decide +kernel
theorem dX9_comesIn_90 : decode cX9_comesIn 90 = .ok (.iload_n 2, 1) := by decide +kernel
theorem dX9_comesIn_91 : decode cX9_comesIn 91 = .ok (.iconst 3, 1) := by decide +kernel
theorem dX9_comesIn_92 : decode cX9_comesIn 92 = .ok (.iload 4, 2) := by decide +kernel
theorem dX9_comesIn_94 : decode cX9_comesIn 94 = .ok (.invokevirtual 81, 3) := by decide +kernel
theorem dX9_comesIn_97 : decode cX9_comesIn 97 = .ok (.return_, 1) := by decide +kernel
theorem m_comesIn (hG : GP G) (hM : MoS S r) {N : Int} (hB : TB N T) (hN : 100 ≤ N ∧ N ≤ 1073740000) {x y z w : Int} (hx : 0 ≤ x ∧ x < 32) (hy : 0 ≤ y ∧ y < 32) (hz : -2147483648 ≤ z ∧ z ≤ 2147483647) : Ct G l yX9_comesIn wsX9_comesIn 1 0 0 [.ref r, .int (I32 x), .int (I32 y), .int (I32 z), .int (I32 w)] S n (ptT mu r T) la (Dt none S n (ptT mu r (ciT T x y z w)) la) := by
  have o9 := hM.1
  unfold ciT
  refine Ct.ofV (cc := cX9_comesIn) (nL := 6) (ret := none) [some (.ref r), some (.int (I32 x)), some (.int (I32 y)), some (.int (I32 z)), some (.int (I32 w)), none] hG (by decide) rfl (Nat.le_of_ble_eq_true rfl) rfl ?_
  rintro X rfl rfl C hcl hsl E
  have loop : ∀ (d j : Nat), j + d = 32 → V X 3 [some (.ref r), some (.int (I32 x)), some (.int (I32 y)), some (.int (I32 z)), some (.int (I32 w)), some (.int (I32 (j : Int)))] [] S n (ptT mu r (ciP T x y z j)) la 0 0 := by
    intro d
    induction d with
    | zero =>
      intro j h1
      have hj : j = 32 := by omega
      subst hj
      refine V_iload C dX9_comesIn_3 rfl ?_
      refine V_bipush C dX9_comesIn_5 (by decide +kernel) ?_
      refine V_icmp_ge C 75 dX9_comesIn_7 (by decide) (by omega) (by omega) (fun z7 => ?_) (fun z7 => ?_)
      · refine V_aload_n C dX9_comesIn_75 rfl ?_
        refine V_iload_n C dX9_comesIn_76 rfl ?_
        refine V_iconst C dX9_comesIn_77 ?_
        refine V_iload_n C dX9_comesIn_78 rfl ?_
        refine V_callVD (nA := 3) C dX9_comesIn_79 (m_puts C.gp hM hy 1 (by decide) rfl) gX9_comesIn_X9_puts rfl o9 rfl (by decide +kernel) rfl (by decide) (by decide) (Nat.le_of_ble_eq_true rfl) ⟨by omega, by omega⟩ rfl ?_
        refine V_aload_n C dX9_comesIn_82 rfl ?_
        refine V_iload_n C dX9_comesIn_83 rfl ?_
        refine V_iconst C dX9_comesIn_84 ?_
        refine V_iload_n C dX9_comesIn_85 rfl ?_
        refine V_callVD (nA := 3) C dX9_comesIn_86 (m_puts C.gp hM hy 2 (by decide) rfl) gX9_comesIn_X9_puts rfl o9 rfl (by decide +kernel) rfl (by decide) (by decide) (Nat.le_of_ble_eq_true rfl) ⟨by omega, by omega⟩ rfl ?_
        refine V_aload_n C dX9_comesIn_89 rfl ?_
        refine V_iload_n C dX9_comesIn_90 rfl ?_
        refine V_iconst C dX9_comesIn_91 ?_
        refine V_iload C dX9_comesIn_92 rfl ?_
        refine V_callVD (nA := 3) C dX9_comesIn_94 (m_puts C.gp hM hy 3 (by decide) rfl) gX9_comesIn_X9_puts rfl o9 rfl (by decide +kernel) rfl (by decide) (by decide) (Nat.le_of_ble_eq_true rfl) ⟨by omega, by omega⟩ rfl ?_
        refine V_return C E dX9_comesIn_97 (by omega) (by omega) ?_
        exact Dt_rfl
      · exact absurd z7 (by first | omega | decide)
    | succ d ih =>
      intro j h1
      have hB2 := ciP_TB hB x y z j
      have c0 := hB2.n 0 (by decide) (i := (j : Int)) (by omega)
      have c1 := hB2.n 1 (by decide) (i := (j : Int)) (by omega)
      have c2 := hB2.n 2 (by decide) (i := (j : Int)) (by omega)
      rw [ciP_hi _ _ _ _ _ _ (by omega)] at c0 c1 c2
      have bi := inI_b (T 0 j) 1 3
      have h9 := ih (j + 1) (by omega)
      refine V_iload C dX9_comesIn_3 rfl ?_
      refine V_bipush C dX9_comesIn_5 (by decide +kernel) ?_
      refine V_icmp_ge C 75 dX9_comesIn_7 (by decide) (by omega) (by omega) (fun z7 => ?_) (fun z7 => ?_)
      · exact absurd z7 (by first | omega | decide)
      · refine V_aload_n C dX9_comesIn_10 rfl ?_
        refine V_iload C dX9_comesIn_11 rfl ?_
        refine V_iconst C dX9_comesIn_13 ?_
        refine V_callVD (nA := 2) C dX9_comesIn_14 (m_of C.gp hM (by omega) 0 (by decide) rfl) gX9_comesIn_X9_of rfl o9 rfl (by decide +kernel) rfl (by decide) (by decide) (Nat.le_of_ble_eq_true rfl) ⟨by omega, by omega⟩ rfl ?_
        rw [ciP_hi _ _ _ _ _ _ (by omega)]
        refine V_iconst C dX9_comesIn_17 ?_
        refine V_iconst C dX9_comesIn_18 ?_
        refine V_callSD (nA := 3) C dX9_comesIn_19 (m_in C.gp (by omega) (by omega) (by omega)) gX9_comesIn_X9_in rfl (by decide +kernel) rfl (by decide) (by decide) (Nat.le_of_ble_eq_true rfl) ⟨by omega, by omega⟩ rfl ?_
        refine V_if_eq C 69 dX9_comesIn_22 (by decide) (by omega) (fun z22 => ?_) (fun z22 => ?_)
        · refine V_iinc C dX9_comesIn_69 rfl rfl (by decide) ?_
          refine V_goto C 3 dX9_comesIn_72 (by decide) ?_
          first | (have hq := hyes; exact h9) | (rw [show ((j + 1 : Nat) : Int) = (j : Int) + 1 from rfl, ciP_no (by unfold inI at *; (repeat' split at *) <;> omega)] at h9 ; exact h9)
        · refine V_iload C dX9_comesIn_25 rfl ?_
          refine V_iload_n C dX9_comesIn_27 rfl ?_
          refine V_icmp_eq C 69 dX9_comesIn_28 (by decide) (by omega) (by omega) (fun z28 => ?_) (fun z28 => ?_)
          · refine V_iinc C dX9_comesIn_69 rfl rfl (by decide) ?_
            refine V_goto C 3 dX9_comesIn_72 (by decide) ?_
            first | (have hq := hyes; exact h9) | (rw [show ((j + 1 : Nat) : Int) = (j : Int) + 1 from rfl, ciP_no (by unfold inI at *; (repeat' split at *) <;> omega)] at h9 ; exact h9)
          · refine V_aload_n C dX9_comesIn_31 rfl ?_
            refine V_iload C dX9_comesIn_32 rfl ?_
            refine V_iconst C dX9_comesIn_34 ?_
            refine V_callVD (nA := 2) C dX9_comesIn_35 (m_of C.gp hM (by omega) 1 (by decide) rfl) gX9_comesIn_X9_of rfl o9 rfl (by decide +kernel) rfl (by decide) (by decide) (Nat.le_of_ble_eq_true rfl) ⟨by omega, by omega⟩ rfl ?_
            rw [ciP_hi _ _ _ _ _ _ (by omega)]
            refine V_iload_n C dX9_comesIn_38 rfl ?_
            refine V_icmp_ne C 69 dX9_comesIn_39 (by decide) (by omega) (by omega) (fun z39 => ?_) (fun z39 => ?_)
            · refine V_iinc C dX9_comesIn_69 rfl rfl (by decide) ?_
              refine V_goto C 3 dX9_comesIn_72 (by decide) ?_
              first | (have hq := hyes; exact h9) | (rw [show ((j + 1 : Nat) : Int) = (j : Int) + 1 from rfl, ciP_no (by unfold inI at *; (repeat' split at *) <;> omega)] at h9 ; exact h9)
            · refine V_aload_n C dX9_comesIn_42 rfl ?_
              refine V_iload C dX9_comesIn_43 rfl ?_
              refine V_iconst C dX9_comesIn_45 ?_
              refine V_callVD (nA := 2) C dX9_comesIn_46 (m_of C.gp hM (by omega) 2 (by decide) rfl) gX9_comesIn_X9_of rfl o9 rfl (by decide +kernel) rfl (by decide) (by decide) (Nat.le_of_ble_eq_true rfl) ⟨by omega, by omega⟩ rfl ?_
              rw [ciP_hi _ _ _ _ _ _ (by omega)]
              refine V_iload_n C dX9_comesIn_49 rfl ?_
              refine V_icmp_lt C 69 dX9_comesIn_50 (by decide) (by omega) (by omega) (fun z50 => ?_) (fun z50 => ?_)
              · refine V_iinc C dX9_comesIn_69 rfl rfl (by decide) ?_
                refine V_goto C 3 dX9_comesIn_72 (by decide) ?_
                first | (have hq := hyes; exact h9) | (rw [show ((j + 1 : Nat) : Int) = (j : Int) + 1 from rfl, ciP_no (by unfold inI at *; (repeat' split at *) <;> omega)] at h9 ; exact h9)
              · refine V_aload_n C dX9_comesIn_53 rfl ?_
                refine V_iload C dX9_comesIn_54 rfl ?_
                refine V_iconst C dX9_comesIn_56 ?_
                refine V_aload_n C dX9_comesIn_57 rfl ?_
                refine V_iload C dX9_comesIn_58 rfl ?_
                refine V_iconst C dX9_comesIn_60 ?_
                refine V_callVD (nA := 2) C dX9_comesIn_61 (m_of C.gp hM (by omega) 2 (by decide) rfl) gX9_comesIn_X9_of rfl o9 rfl (by decide +kernel) rfl (by decide) (by decide) (Nat.le_of_ble_eq_true rfl) ⟨by omega, by omega⟩ rfl ?_
                rw [ciP_hi _ _ _ _ _ _ (by omega)]
                refine V_iconst C dX9_comesIn_64 ?_
                refine V_iadd C dX9_comesIn_65 ?_
                refine V_callVD (nA := 3) C dX9_comesIn_66 (m_puts C.gp hM (by omega) 2 (by decide) rfl) gX9_comesIn_X9_puts rfl o9 rfl (by decide +kernel) rfl (by decide) (by decide) (Nat.le_of_ble_eq_true rfl) ⟨by omega, by omega⟩ rfl ?_
                rw [ciP_yes (by omega) (by unfold inI at *; (repeat' split at *) <;> omega)]
                have hyes := True.intro
                refine V_iinc C dX9_comesIn_69 rfl rfl (by decide) ?_
                refine V_goto C 3 dX9_comesIn_72 (by decide) ?_
                first | (have hq := hyes; exact h9) | (rw [show ((j + 1 : Nat) : Int) = (j : Int) + 1 from rfl, ciP_no (by unfold inI at *; (repeat' split at *) <;> omega)] at h9 ; exact h9)
  refine V_iconst C dX9_comesIn_0 ?_
  refine V_istore C dX9_comesIn_1 rfl (by decide) ?_
  have h := loop 32 0 (by omega)
  rw [show ((0 : Nat) : Int) = 0 from rfl, ciP_0] at h
  exact h
set_option maxRecDepth 20000 in
theorem ggX9_parts_X9_freeNode : GoodIn wsX9_parts wsX9_freeNode := goodIn_r _ [5, 6, 7, 8, 4, 9, 10, 11, 12, 13, 14, 15, 16, 17, 18, 19, 20, 21, 22, 23, 24, 25, 26, 27, 28, 29, 30, 31, 32, 33, 34, 35, 36, 37, 38] (by decide +kernel) (by decide +kernel)
set_option maxRecDepth 20000 in
theorem gX9_parts_X9_freeNode : GoodIn wsX9_parts (wsV RX9 144 RX9 yX9_freeNode wsX9_freeNode) := goodIn_app (goodIn_of _ (by decide +kernel)) ggX9_parts_X9_freeNode
set_option maxRecDepth 20000 in
theorem ggX9_parts_X9_puts : GoodIn wsX9_parts wsX9_puts := goodIn_r _ [14, 10, 15, 16, 17, 18, 19, 20, 21, 22, 23, 24, 25, 26, 27, 28, 29, 30, 31, 32, 33, 34, 35, 36, 37, 38] (by decide +kernel) (by decide +kernel)
set_option maxRecDepth 20000 in
theorem gX9_parts_X9_puts : GoodIn wsX9_parts (wsV RX9 81 RX9 yX9_puts wsX9_puts) := goodIn_app (goodIn_of _ (by decide +kernel)) ggX9_parts_X9_puts
set_option maxRecDepth 20000 in
theorem ggX9_parts_X9_of : GoodIn wsX9_parts wsX9_of := goodIn_r _ [9, 10, 15, 16, 17, 18, 19, 20, 21, 22, 23, 24, 25, 26, 27, 28, 29, 30, 31, 32, 33, 34, 35, 36, 37, 38] (by decide +kernel) (by decide +kernel)
set_option maxRecDepth 20000 in
theorem gX9_parts_X9_of : GoodIn wsX9_parts (wsV RX9 77 RX9 yX9_of wsX9_of) := goodIn_app (goodIn_of _ (by decide +kernel)) ggX9_parts_X9_of
theorem dX9_parts_0 : decode cX9_parts 0 = .ok (.aload_n 0, 1) := by decide +kernel
theorem dX9_parts_1 : decode cX9_parts 1 = .ok (.invokevirtual 144, 3) := by decide +kernel
theorem dX9_parts_4 : decode cX9_parts 4 = .ok (.istore 5, 2) := by decide +kernel
theorem dX9_parts_6 : decode cX9_parts 6 = .ok (.aload_n 0, 1) := by decide +kernel
theorem dX9_parts_7 : decode cX9_parts 7 = .ok (.iload 5, 2) := by decide +kernel
theorem dX9_parts_9 : decode cX9_parts 9 = .ok (.iconst 0, 1) := by decide +kernel
theorem dX9_parts_10 : decode cX9_parts 10 = .ok (.iload_n 3, 1) := by decide +kernel
theorem dX9_parts_11 : decode cX9_parts 11 = .ok (.invokevirtual 81, 3) := by decide +kernel
theorem dX9_parts_14 : decode cX9_parts 14 = .ok (.aload_n 0, 1) := by decide +kernel
theorem dX9_parts_15 : decode cX9_parts 15 = .ok (.iload 5, 2) := by decide +kernel
theorem dX9_parts_17 : decode cX9_parts 17 = .ok (.iconst 1, 1) := by decide +kernel
theorem dX9_parts_18 : decode cX9_parts 18 = .ok (.aload_n 0, 1) := by decide +kernel
theorem dX9_parts_19 : decode cX9_parts 19 = .ok (.iload_n 1, 1) := by decide +kernel
theorem dX9_parts_20 : decode cX9_parts 20 = .ok (.iconst 1, 1) := by decide +kernel
theorem dX9_parts_21 : decode cX9_parts 21 = .ok (.invokevirtual 77, 3) := by decide +kernel
theorem dX9_parts_24 : decode cX9_parts 24 = .ok (.invokevirtual 81, 3) := by decide +kernel
theorem dX9_parts_27 : decode cX9_parts 27 = .ok (.aload_n 0, 1) := by decide +kernel
theorem dX9_parts_28 : decode cX9_parts 28 = .ok (.iload 5, 2) := by decide +kernel
theorem dX9_parts_30 : decode cX9_parts 30 = .ok (.iconst 2, 1) := by decide +kernel
theorem dX9_parts_31 : decode cX9_parts 31 = .ok (.aload_n 0, 1) := by decide +kernel
theorem dX9_parts_32 : decode cX9_parts 32 = .ok (.iload_n 1, 1) := by decide +kernel
theorem dX9_parts_33 : decode cX9_parts 33 = .ok (.iconst 2, 1) := by decide +kernel
theorem dX9_parts_34 : decode cX9_parts 34 = .ok (.invokevirtual 77, 3) := by decide +kernel
theorem dX9_parts_37 : decode cX9_parts 37 = .ok (.invokevirtual 81, 3) := by decide +kernel
theorem dX9_parts_40 : decode cX9_parts 40 = .ok (.aload_n 0, 1) := by decide +kernel
theorem dX9_parts_41 : decode cX9_parts 41 = .ok (.iload 5, 2) := by decide +kernel
theorem dX9_parts_43 : decode cX9_parts 43 = .ok (.iconst 3, 1) := by decide +kernel
theorem dX9_parts_44 : decode cX9_parts 44 = .ok (.aload_n 0, 1) := by decide +kernel
theorem dX9_parts_45 : decode cX9_parts 45 = .ok (.iload_n 1, 1) := by decide +kernel
theorem dX9_parts_46 : decode cX9_parts 46 = .ok (.iconst 3, 1) := by decide +kernel
theorem dX9_parts_47 : decode cX9_parts 47 = .ok (.invokevirtual 77, 3) := by decide +kernel
theorem dX9_parts_50 : decode cX9_parts 50 = .ok (.invokevirtual 81, 3) := by decide +kernel
theorem dX9_parts_53 : decode cX9_parts 53 = .ok (.aload_n 0, 1) := by decide +kernel
theorem dX9_parts_54 : decode cX9_parts 54 = .ok (.iload_n 1, 1) := by decide +kernel
theorem dX9_parts_55 : decode cX9_parts 55 = .ok (.iconst 1, 1) := by decide +kernel
theorem dX9_parts_56 : decode cX9_parts 56 = .ok (.iload 5, 2) := by decide +kernel
theorem dX9_parts_58 : decode cX9_parts 58 = .ok (.invokevirtual 81, 3) := by decide +kernel
theorem dX9_parts_61 : decode cX9_parts 61 = .ok (.aload_n 0, 1) := by decide +kernel
theorem dX9_parts_62 : decode cX9_parts 62 = .ok (.iload_n 1, 1) := by decide +kernel
theorem dX9_parts_63 : decode cX9_parts 63 = .ok (.iconst 2, 1) := by decide +kernel
theorem dX9_parts_64 : decode cX9_parts 64 = .ok (.iload 4, 2) := by decide +kernel
theorem dX9_parts_66 : decode cX9_parts 66 = .ok (.ifCond .eq 7, 3) := by decide +kernel
theorem dX9_parts_69 : decode cX9_parts 69 = .ok (.iconst 1, 1) := by decide +kernel
theorem dX9_parts_70 : decode cX9_parts 70 = .ok (.goto 4, 3) := by decide +kernel
theorem dX9_parts_73 : decode cX9_parts 73 = .ok (.iconst 0, 1) := by decide +kernel
theorem dX9_parts_74 : decode cX9_parts 74 = .ok (.invokevirtual 81, 3) := by decide +kernel
theorem dX9_parts_77 : decode cX9_parts 77 = .ok (.aload_n 0, 1) := by decide +kernel
theorem dX9_parts_78 : decode cX9_parts 78 = .ok (.iload_n 1, 1) := by decide +kernel
theorem dX9_parts_79 : decode cX9_parts 79 = .ok (.iconst 3, 1) := by decide +kernel
theorem dX9_parts_80 : decode cX9_parts 80 = .ok (.iconst 1, 1) := by decide +kernel
theorem dX9_parts_81 : decode cX9_parts 81 = .ok (.invokevirtual 81, 3) := by decide +kernel
theorem dX9_parts_84 : decode cX9_parts 84 = .ok (.aload_n 0, 1) := by decide +kernel
theorem dX9_parts_85 : decode cX9_parts 85 = .ok (.iload_n 2, 1) := by decide +kernel
theorem dX9_parts_86 : decode cX9_parts 86 = .ok (.iconst 1, 1) := by decide +kernel
theorem dX9_parts_87 : decode cX9_parts 87 = .ok (.iload 5, 2) := by decide +kernel
theorem dX9_parts_89 : decode cX9_parts 89 = .ok (.invokevirtual 81, 3) := by decide +kernel
theorem dX9_parts_92 : decode cX9_parts 92 = .ok (.aload_n 0, 1) := by decide +kernel
theorem dX9_parts_93 : decode cX9_parts 93 = .ok (.iload_n 2, 1) := by decide +kernel
theorem dX9_parts_94 : decode cX9_parts 94 = .ok (.iconst 2, 1) := by decide +kernel
theorem dX9_parts_95 : decode cX9_parts 95 = .ok (.iload 4, 2) := by decide +kernel
theorem dX9_parts_97 : decode cX9_parts 97 = .ok (.ifCond .eq 7, 3) := by decide +kernel
theorem dX9_parts_100 : decode cX9_parts 100 = .ok (.iconst 0, 1) := by decide +kernel
theorem dX9_parts_101 : decode cX9_parts 101 = .ok (.goto 4, 3) := by decide +kernel
theorem dX9_parts_104 : decode cX9_parts 104 = .ok (.iconst 1, 1) := by decide +kernel
theorem dX9_parts_105 : decode cX9_parts 105 = .ok (.invokevirtual 81, 3) := by decide +kernel
theorem dX9_parts_108 : decode cX9_parts 108 = .ok (.aload_n 0, 1) := by decide +kernel
theorem dX9_parts_109 : decode cX9_parts 109 = .ok (.iload_n 2, 1) := by decide +kernel
theorem dX9_parts_110 : decode cX9_parts 110 = .ok (.iconst 3, 1) := by decide +kernel
theorem dX9_parts_111 : decode cX9_parts 111 = .ok (.iconst 1, 1) := by decide +kernel
theorem dX9_parts_112 : decode cX9_parts 112 = .ok (.invokevirtual 81, 3) := by decide +kernel
theorem dX9_parts_115 : decode cX9_parts 115 = .ok (.return_, 1) := by decide +kernel
theorem m_parts (hG : GP G) (hM : MoS S r) {N : Int} (hB : TB N T) (hN : 100 ≤ N ∧ N ≤ 1073740000) {x y k ah : Int} (hx : 0 ≤ x ∧ x < 32) (hy : 0 ≤ y ∧ y < 32) (hah : 0 ≤ ah ∧ ah ≤ 1) (hf : frT T ≠ -1) : Ct G l yX9_parts wsX9_parts 2 0 0 [.ref r, .int (I32 x), .int (I32 y), .int (I32 k), .int (I32 ah)] S n (ptT mu r T) la (Dt none S n (ptT mu r (prT T x y k ah)) la) := by
  have o9 := hM.1
  have bf := frT_b T
  refine Ct.ofV (cc := cX9_parts) (nL := 6) (ret := none) [some (.ref r), some (.int (I32 x)), some (.int (I32 y)), some (.int (I32 k)), some (.int (I32 ah)), none] hG (by decide) rfl (Nat.le_of_ble_eq_true rfl) rfl ?_
  rintro X rfl rfl C hcl hsl E
  refine V_aload_n C dX9_parts_0 rfl ?_
  refine V_callVD (nA := 0) C dX9_parts_1 (m_freeNode C.gp hM hB (by omega) hf) gX9_parts_X9_freeNode rfl o9 rfl (by decide +kernel) rfl (by decide) (by decide) (Nat.le_of_ble_eq_true rfl) ⟨by omega, by omega⟩ rfl ?_
  refine V_istore C dX9_parts_4 rfl (by decide) ?_
  refine V_aload_n C dX9_parts_6 rfl ?_
  refine V_iload C dX9_parts_7 rfl ?_
  refine V_iconst C dX9_parts_9 ?_
  refine V_iload_n C dX9_parts_10 rfl ?_
  refine V_callVD (nA := 3) C dX9_parts_11 (m_puts C.gp hM (by omega) 0 (by decide) rfl) gX9_parts_X9_puts rfl o9 rfl (by decide +kernel) rfl (by decide) (by decide) (Nat.le_of_ble_eq_true rfl) ⟨by omega, by omega⟩ rfl ?_
  refine V_aload_n C dX9_parts_14 rfl ?_
  refine V_iload C dX9_parts_15 rfl ?_
  refine V_iconst C dX9_parts_17 ?_
  refine V_aload_n C dX9_parts_18 rfl ?_
  refine V_iload_n C dX9_parts_19 rfl ?_
  refine V_iconst C dX9_parts_20 ?_
  refine V_callVD (nA := 2) C dX9_parts_21 (m_of C.gp hM hx 1 (by decide) rfl) gX9_parts_X9_of rfl o9 rfl (by decide +kernel) rfl (by decide) (by decide) (Nat.le_of_ble_eq_true rfl) ⟨by omega, by omega⟩ rfl ?_
  refine V_callVD (nA := 3) C dX9_parts_24 (m_puts C.gp hM (by omega) 1 (by decide) rfl) gX9_parts_X9_puts rfl o9 rfl (by decide +kernel) rfl (by decide) (by decide) (Nat.le_of_ble_eq_true rfl) ⟨by omega, by omega⟩ rfl ?_
  refine V_aload_n C dX9_parts_27 rfl ?_
  refine V_iload C dX9_parts_28 rfl ?_
  refine V_iconst C dX9_parts_30 ?_
  refine V_aload_n C dX9_parts_31 rfl ?_
  refine V_iload_n C dX9_parts_32 rfl ?_
  refine V_iconst C dX9_parts_33 ?_
  refine V_callVD (nA := 2) C dX9_parts_34 (m_of C.gp hM hx 2 (by decide) rfl) gX9_parts_X9_of rfl o9 rfl (by decide +kernel) rfl (by decide) (by decide) (Nat.le_of_ble_eq_true rfl) ⟨by omega, by omega⟩ rfl ?_
  refine V_callVD (nA := 3) C dX9_parts_37 (m_puts C.gp hM (by omega) 2 (by decide) rfl) gX9_parts_X9_puts rfl o9 rfl (by decide +kernel) rfl (by decide) (by decide) (Nat.le_of_ble_eq_true rfl) ⟨by omega, by omega⟩ rfl ?_
  refine V_aload_n C dX9_parts_40 rfl ?_
  refine V_iload C dX9_parts_41 rfl ?_
  refine V_iconst C dX9_parts_43 ?_
  refine V_aload_n C dX9_parts_44 rfl ?_
  refine V_iload_n C dX9_parts_45 rfl ?_
  refine V_iconst C dX9_parts_46 ?_
  refine V_callVD (nA := 2) C dX9_parts_47 (m_of C.gp hM hx 3 (by decide) rfl) gX9_parts_X9_of rfl o9 rfl (by decide +kernel) rfl (by decide) (by decide) (Nat.le_of_ble_eq_true rfl) ⟨by omega, by omega⟩ rfl ?_
  refine V_callVD (nA := 3) C dX9_parts_50 (m_puts C.gp hM (by omega) 3 (by decide) rfl) gX9_parts_X9_puts rfl o9 rfl (by decide +kernel) rfl (by decide) (by decide) (Nat.le_of_ble_eq_true rfl) ⟨by omega, by omega⟩ rfl ?_
  refine V_aload_n C dX9_parts_53 rfl ?_
  refine V_iload_n C dX9_parts_54 rfl ?_
  refine V_iconst C dX9_parts_55 ?_
  refine V_iload C dX9_parts_56 rfl ?_
  refine V_callVD (nA := 3) C dX9_parts_58 (m_puts C.gp hM hx 1 (by decide) rfl) gX9_parts_X9_puts rfl o9 rfl (by decide +kernel) rfl (by decide) (by decide) (Nat.le_of_ble_eq_true rfl) ⟨by omega, by omega⟩ rfl ?_
  refine V_aload_n C dX9_parts_61 rfl ?_
  refine V_iload_n C dX9_parts_62 rfl ?_
  refine V_iconst C dX9_parts_63 ?_
  refine V_iload C dX9_parts_64 rfl ?_
  refine V_if_eq C 73 dX9_parts_66 (by decide) (by omega) (fun z66 => ?_) (fun z66 => ?_)
  · refine V_iconst C dX9_parts_73 ?_
    refine V_callVD (nA := 3) C dX9_parts_74 (m_puts C.gp hM hx 2 (by decide) rfl) gX9_parts_X9_puts rfl o9 rfl (by decide +kernel) rfl (by decide) (by decide) (Nat.le_of_ble_eq_true rfl) ⟨by omega, by omega⟩ rfl ?_
    refine V_aload_n C dX9_parts_77 rfl ?_
    refine V_iload_n C dX9_parts_78 rfl ?_
    refine V_iconst C dX9_parts_79 ?_
    refine V_iconst C dX9_parts_80 ?_
    refine V_callVD (nA := 3) C dX9_parts_81 (m_puts C.gp hM hx 3 (by decide) rfl) gX9_parts_X9_puts rfl o9 rfl (by decide +kernel) rfl (by decide) (by decide) (Nat.le_of_ble_eq_true rfl) ⟨by omega, by omega⟩ rfl ?_
    refine V_aload_n C dX9_parts_84 rfl ?_
    refine V_iload_n C dX9_parts_85 rfl ?_
    refine V_iconst C dX9_parts_86 ?_
    refine V_iload C dX9_parts_87 rfl ?_
    refine V_callVD (nA := 3) C dX9_parts_89 (m_puts C.gp hM hy 1 (by decide) rfl) gX9_parts_X9_puts rfl o9 rfl (by decide +kernel) rfl (by decide) (by decide) (Nat.le_of_ble_eq_true rfl) ⟨by omega, by omega⟩ rfl ?_
    refine V_aload_n C dX9_parts_92 rfl ?_
    refine V_iload_n C dX9_parts_93 rfl ?_
    refine V_iconst C dX9_parts_94 ?_
    refine V_iload C dX9_parts_95 rfl ?_
    refine V_if_eq C 104 dX9_parts_97 (by decide) (by omega) (fun z97 => ?_) (fun z97 => ?_)
    · refine V_iconst C dX9_parts_104 ?_
      refine V_callVD (nA := 3) C dX9_parts_105 (m_puts C.gp hM hy 2 (by decide) rfl) gX9_parts_X9_puts rfl o9 rfl (by decide +kernel) rfl (by decide) (by decide) (Nat.le_of_ble_eq_true rfl) ⟨by omega, by omega⟩ rfl ?_
      refine V_aload_n C dX9_parts_108 rfl ?_
      refine V_iload_n C dX9_parts_109 rfl ?_
      refine V_iconst C dX9_parts_110 ?_
      refine V_iconst C dX9_parts_111 ?_
      refine V_callVD (nA := 3) C dX9_parts_112 (m_puts C.gp hM hy 3 (by decide) rfl) gX9_parts_X9_puts rfl o9 rfl (by decide +kernel) rfl (by decide) (by decide) (Nat.le_of_ble_eq_true rfl) ⟨by omega, by omega⟩ rfl ?_
      refine V_return C E dX9_parts_115 (by omega) (by omega) ?_
      unfold prT
      first | (rw [if_pos (by omega), if_pos (by omega)] ; exact Dt_rfl) | (rw [if_neg (by omega), if_neg (by omega)] ; exact Dt_rfl) | (exfalso; omega)
    · refine V_iconst C dX9_parts_100 ?_
      refine V_goto C 105 dX9_parts_101 (by decide) ?_
      refine V_callVD (nA := 3) C dX9_parts_105 (m_puts C.gp hM hy 2 (by decide) rfl) gX9_parts_X9_puts rfl o9 rfl (by decide +kernel) rfl (by decide) (by decide) (Nat.le_of_ble_eq_true rfl) ⟨by omega, by omega⟩ rfl ?_
      refine V_aload_n C dX9_parts_108 rfl ?_
      refine V_iload_n C dX9_parts_109 rfl ?_
      refine V_iconst C dX9_parts_110 ?_
      refine V_iconst C dX9_parts_111 ?_
      refine V_callVD (nA := 3) C dX9_parts_112 (m_puts C.gp hM hy 3 (by decide) rfl) gX9_parts_X9_puts rfl o9 rfl (by decide +kernel) rfl (by decide) (by decide) (Nat.le_of_ble_eq_true rfl) ⟨by omega, by omega⟩ rfl ?_
      refine V_return C E dX9_parts_115 (by omega) (by omega) ?_
      unfold prT
      first | (rw [if_pos (by omega), if_pos (by omega)] ; exact Dt_rfl) | (rw [if_neg (by omega), if_neg (by omega)] ; exact Dt_rfl) | (exfalso; omega)
  · refine V_iconst C dX9_parts_69 ?_
    refine V_goto C 74 dX9_parts_70 (by decide) ?_
    refine V_callVD (nA := 3) C dX9_parts_74 (m_puts C.gp hM hx 2 (by decide) rfl) gX9_parts_X9_puts rfl o9 rfl (by decide +kernel) rfl (by decide) (by decide) (Nat.le_of_ble_eq_true rfl) ⟨by omega, by omega⟩ rfl ?_
    refine V_aload_n C dX9_parts_77 rfl ?_
    refine V_iload_n C dX9_parts_78 rfl ?_
    refine V_iconst C dX9_parts_79 ?_
    refine V_iconst C dX9_parts_80 ?_
    refine V_callVD (nA := 3) C dX9_parts_81 (m_puts C.gp hM hx 3 (by decide) rfl) gX9_parts_X9_puts rfl o9 rfl (by decide +kernel) rfl (by decide) (by decide) (Nat.le_of_ble_eq_true rfl) ⟨by omega, by omega⟩ rfl ?_
    refine V_aload_n C dX9_parts_84 rfl ?_
    refine V_iload_n C dX9_parts_85 rfl ?_
    refine V_iconst C dX9_parts_86 ?_
    refine V_iload C dX9_parts_87 rfl ?_
    refine V_callVD (nA := 3) C dX9_parts_89 (m_puts C.gp hM hy 1 (by decide) rfl) gX9_parts_X9_puts rfl o9 rfl (by decide +kernel) rfl (by decide) (by decide) (Nat.le_of_ble_eq_true rfl) ⟨by omega, by omega⟩ rfl ?_
    refine V_aload_n C dX9_parts_92 rfl ?_
    refine V_iload_n C dX9_parts_93 rfl ?_
    refine V_iconst C dX9_parts_94 ?_
    refine V_iload C dX9_parts_95 rfl ?_
    refine V_if_eq C 104 dX9_parts_97 (by decide) (by omega) (fun z97 => ?_) (fun z97 => ?_)
    · refine V_iconst C dX9_parts_104 ?_
      refine V_callVD (nA := 3) C dX9_parts_105 (m_puts C.gp hM hy 2 (by decide) rfl) gX9_parts_X9_puts rfl o9 rfl (by decide +kernel) rfl (by decide) (by decide) (Nat.le_of_ble_eq_true rfl) ⟨by omega, by omega⟩ rfl ?_
      refine V_aload_n C dX9_parts_108 rfl ?_
      refine V_iload_n C dX9_parts_109 rfl ?_
      refine V_iconst C dX9_parts_110 ?_
      refine V_iconst C dX9_parts_111 ?_
      refine V_callVD (nA := 3) C dX9_parts_112 (m_puts C.gp hM hy 3 (by decide) rfl) gX9_parts_X9_puts rfl o9 rfl (by decide +kernel) rfl (by decide) (by decide) (Nat.le_of_ble_eq_true rfl) ⟨by omega, by omega⟩ rfl ?_
      refine V_return C E dX9_parts_115 (by omega) (by omega) ?_
      unfold prT
      first | (rw [if_pos (by omega), if_pos (by omega)] ; exact Dt_rfl) | (rw [if_neg (by omega), if_neg (by omega)] ; exact Dt_rfl) | (exfalso; omega)
    · refine V_iconst C dX9_parts_100 ?_
      refine V_goto C 105 dX9_parts_101 (by decide) ?_
      refine V_callVD (nA := 3) C dX9_parts_105 (m_puts C.gp hM hy 2 (by decide) rfl) gX9_parts_X9_puts rfl o9 rfl (by decide +kernel) rfl (by decide) (by decide) (Nat.le_of_ble_eq_true rfl) ⟨by omega, by omega⟩ rfl ?_
      refine V_aload_n C dX9_parts_108 rfl ?_
      refine V_iload_n C dX9_parts_109 rfl ?_
      refine V_iconst C dX9_parts_110 ?_
      refine V_iconst C dX9_parts_111 ?_
      refine V_callVD (nA := 3) C dX9_parts_112 (m_puts C.gp hM hy 3 (by decide) rfl) gX9_parts_X9_puts rfl o9 rfl (by decide +kernel) rfl (by decide) (by decide) (Nat.le_of_ble_eq_true rfl) ⟨by omega, by omega⟩ rfl ?_
      refine V_return C E dX9_parts_115 (by omega) (by omega) ?_
      unfold prT
      first | (rw [if_pos (by omega), if_pos (by omega)] ; exact Dt_rfl) | (rw [if_neg (by omega), if_neg (by omega)] ; exact Dt_rfl) | (exfalso; omega)
theorem dX9_kindOf_0 : decode cX9_kindOf 0 = .ok (.iload_n 0, 1) := by decide +kernel
theorem dX9_kindOf_1 : decode cX9_kindOf 1 = .ok (.iconst 2, 1) := by decide +kernel
theorem dX9_kindOf_2 : decode cX9_kindOf 2 = .ok (.if_icmp .ge 7, 3) := by decide +kernel
theorem dX9_kindOf_5 : decode cX9_kindOf 5 = .ok (.iconst 2, 1) := by decide +kernel
theorem dX9_kindOf_6 : decode cX9_kindOf 6 = .ok (.goto 4, 3) := by decide +kernel
theorem dX9_kindOf_9 : decode cX9_kindOf 9 = .ok (.iconst 3, 1) := by decide +kernel
theorem dX9_kindOf_10 : decode cX9_kindOf 10 = .ok (.ireturn, 1) := by decide +kernel
def knF (s : Int) : Int := if s < 2 then 2 else 3
theorem m_kindOf (hG : GP G) {x : Int} (hx : -2147483648 ≤ x ∧ x ≤ 2147483647) : Ct G l yX9_kindOf wsX9_kindOf 0 0 0 [.int (I32 x)] S n mu la (Dt (some (.int (I32 (knF x)))) S n mu la) := by
  refine Ct.ofV (cc := cX9_kindOf) (nL := 1) (ret := (some .int)) [some (.int (I32 x))] hG (by decide) rfl (Nat.le_of_ble_eq_true rfl) rfl ?_
  rintro X rfl rfl C hcl hsl E
  refine V_iload_n C dX9_kindOf_0 rfl ?_
  refine V_iconst C dX9_kindOf_1 ?_
  refine V_icmp_ge C 9 dX9_kindOf_2 (by decide) (by omega) (by omega) (fun z2 => ?_) (fun z2 => ?_)
  · refine V_iconst C dX9_kindOf_9 ?_
    refine V_ireturn C E dX9_kindOf_10 (by omega) (by omega) ?_
    exact Dt_int (by unfold knF; (repeat' split) <;> first | rfl | omega)
  · refine V_iconst C dX9_kindOf_5 ?_
    refine V_goto C 10 dX9_kindOf_6 (by decide) ?_
    refine V_ireturn C E dX9_kindOf_10 (by omega) (by omega) ?_
    exact Dt_int (by unfold knF; (repeat' split) <;> first | rfl | omega)
end M2
