/-! THE REFERENCE (DockTreeModel), at r; its rows r + 1 .. r + 16. The tree of a state is seen as a memory T: rows 0 .. 8 what a node holds, 9 the groups of the panes, 10 their places. -/
def MoS (S : Sh) (r : Nat) : Prop :=
  hasS S r (.inr (.inr (7, [.inl (.ref (r + 1)), .inl (.ref (r + 2)), .inl (.ref (r + 3)), .inl (.ref (r + 4)), .inr 0, .inl (.ref (r + 5)), .inr 0, .inr 0, .inl (.ref (r + 6)), .inr 0, .inl (.ref (r + 7)), .inl (.ref (r + 8)), .inl (.ref (r + 9)), .inl (.ref (r + 10)), .inl (.ref (r + 11)), .inl (.ref (r + 12)), .inl (.ref (r + 13)), .inl (.ref (r + 14)), .inl (.ref (r + 15)), .inr 0, .inr 0, .inr 1, .inl (.ref (r + 16)), .inr 1]))) ∧
  hasS S (r + 1) (.inl (0, 1639)) ∧ hasS S (r + 2) (.inl (0, 6556)) ∧ hasS S (r + 3) (.inl (0, 1639)) ∧ hasS S (r + 4) (.inl (0, 1639)) ∧ hasS S (r + 5) (.inl (0, 150)) ∧
  (∀ k, 6 ≤ k ∧ k ≤ 13 → hasS S (r + k) (.inl (0, 32))) ∧ hasS S (r + 14) (.inl (0, 16)) ∧ hasS S (r + 15) (.inl (0, 16)) ∧ hasS S (r + 16) (.inl (0, 5))
def ptT (mu : Mem) (r : Nat) (T : Mem) : Mem := fun a j => if a = r + 1 ∧ 35 ≤ j ∧ j < 355 then (if j < 323 then T ((j - 35) % 9).toNat ((j - 35) / 9) else if (j - 323) % 2 = 0 then T 9 ((j - 323) / 2) else T 10 ((j - 323) / 2)) else mu a j
def trT (mu : Mem) (r : Nat) : Mem := fun w i => if w ≤ 8 then mu (r + 1) (35 + 9 * i + w) else if w = 9 then mu (r + 1) (323 + 2 * i) else mu (r + 1) (323 + 2 * i + 1)
theorem pt_r {mu T : Mem} {r : Nat} {j : Int} : ptT mu r T r j = mu r j := by unfold ptT; rw [if_neg (by omega)]
theorem pt_a {mu T : Mem} {r a : Nat} {j : Int} (h : a ≠ r + 1) : ptT mu r T a j = mu a j := by unfold ptT; rw [if_neg (by omega)]
theorem pt_lo {mu T : Mem} {r : Nat} {j : Int} (h : j < 35 ∨ 355 ≤ j) : ptT mu r T (r + 1) j = mu (r + 1) j := by unfold ptT; rw [if_neg (by omega)]
theorem pt_n {mu T : Mem} {r w : Nat} {i : Int} (hi : 0 ≤ i ∧ i < 32) (hw : w ≤ 8) : ptT mu r T (r + 1) (35 + 9 * i + w) = T w i := by
  unfold ptT
  rw [if_pos (by omega), if_pos (by omega), show ((35 + 9 * i + (w : Int) - 35) % 9).toNat = w by omega, show (35 + 9 * i + (w : Int) - 35) / 9 = i by omega]
theorem pt_g {mu T : Mem} {r : Nat} {i : Int} (hi : 0 ≤ i ∧ i < 16) : ptT mu r T (r + 1) (323 + 2 * i) = T 9 i := by
  unfold ptT
  rw [if_pos (by omega), if_neg (by omega), if_pos (by omega), show (323 + 2 * i - 323) / 2 = i by omega]
theorem pt_p {mu T : Mem} {r : Nat} {i : Int} (hi : 0 ≤ i ∧ i < 16) : ptT mu r T (r + 1) (323 + 2 * i + 1) = T 10 i := by
  unfold ptT
  rw [if_pos (by omega), if_neg (by omega), if_neg (by omega), show (323 + 2 * i + 1 - 323) / 2 = i by omega]
theorem ptu_r {mu T : Mem} {r : Nat} {j v : Int} : up (ptT mu r T) r j v = ptT (up mu r j v) r T := by
  funext a k; unfold up ptT; try dsimp only
  by_cases h : a = r ∧ k = j
  · rw [if_pos h, if_neg (by omega), if_pos h]
  · rw [if_neg h, if_neg h]
theorem ptu_a {mu T : Mem} {r b : Nat} {j v : Int} (hb : b ≠ r + 1) : up (ptT mu r T) b j v = ptT (up mu b j v) r T := by
  funext a k; unfold up ptT; try dsimp only
  by_cases h : a = b ∧ k = j
  · rw [if_pos h, if_neg (by omega), if_pos h]
  · rw [if_neg h, if_neg h]
theorem ptu_lo {mu T : Mem} {r : Nat} {j v : Int} (hj : j < 35 ∨ 355 ≤ j) : up (ptT mu r T) (r + 1) j v = ptT (up mu (r + 1) j v) r T := by
  funext a k; unfold up ptT; try dsimp only
  by_cases h : a = r + 1 ∧ k = j
  · rw [if_pos h, if_neg (by omega), if_pos h]
  · rw [if_neg h, if_neg h]
theorem ptu_n {mu T : Mem} {r w : Nat} {i v : Int} (hi : 0 ≤ i ∧ i < 32) (hw : w ≤ 8) : up (ptT mu r T) (r + 1) (35 + 9 * i + w) v = ptT mu r (up T w i v) := by
  funext a k; unfold up ptT; try dsimp only
  by_cases h : a = r + 1 ∧ k = 35 + 9 * i + w
  · rw [if_pos h, if_pos (by omega), if_pos (by omega), if_pos (by omega)]
  · rw [if_neg h]
    by_cases h2 : a = r + 1 ∧ 35 ≤ k ∧ k < 355
    · rw [if_pos h2, if_pos h2]
      by_cases h3 : k < 323
      · rw [if_pos h3, if_pos h3, if_neg (by omega)]
      · rw [if_neg h3, if_neg h3]
        by_cases h4 : (k - 323) % 2 = 0
        · rw [if_pos h4, if_pos h4, if_neg (by omega)]
        · rw [if_neg h4, if_neg h4, if_neg (by omega)]
    · rw [if_neg h2, if_neg h2]
theorem ptu_g {mu T : Mem} {r : Nat} {i v : Int} (hi : 0 ≤ i ∧ i < 16) : up (ptT mu r T) (r + 1) (323 + 2 * i) v = ptT mu r (up T 9 i v) := by
  funext a k; unfold up ptT; try dsimp only
  by_cases h : a = r + 1 ∧ k = 323 + 2 * i
  · rw [if_pos h, if_pos (by omega), if_neg (by omega), if_pos (by omega), if_pos (by omega)]
  · rw [if_neg h]
    by_cases h2 : a = r + 1 ∧ 35 ≤ k ∧ k < 355
    · rw [if_pos h2, if_pos h2]
      by_cases h3 : k < 323
      · rw [if_pos h3, if_pos h3, if_neg (by omega)]
      · rw [if_neg h3, if_neg h3]
        by_cases h4 : (k - 323) % 2 = 0
        · rw [if_pos h4, if_pos h4, if_neg (by omega)]
        · rw [if_neg h4, if_neg h4, if_neg (by omega)]
    · rw [if_neg h2, if_neg h2]
theorem ptu_p {mu T : Mem} {r : Nat} {i v : Int} (hi : 0 ≤ i ∧ i < 16) : up (ptT mu r T) (r + 1) (323 + 2 * i + 1) v = ptT mu r (up T 10 i v) := by
  funext a k; unfold up ptT; try dsimp only
  by_cases h : a = r + 1 ∧ k = 323 + 2 * i + 1
  · rw [if_pos h, if_pos (by omega), if_neg (by omega), if_neg (by omega), if_pos (by omega)]
  · rw [if_neg h]
    by_cases h2 : a = r + 1 ∧ 35 ≤ k ∧ k < 355
    · rw [if_pos h2, if_pos h2]
      by_cases h3 : k < 323
      · rw [if_pos h3, if_pos h3, if_neg (by omega)]
      · rw [if_neg h3, if_neg h3]
        by_cases h4 : (k - 323) % 2 = 0
        · rw [if_pos h4, if_pos h4, if_neg (by omega)]
        · rw [if_neg h4, if_neg h4, if_neg (by omega)]
    · rw [if_neg h2, if_neg h2]
theorem pt_self (mu : Mem) (r : Nat) : ptT mu r (trT mu r) = mu := by
  funext a j
  unfold ptT trT
  by_cases h : a = r + 1 ∧ 35 ≤ j ∧ j < 355
  · rw [if_pos h, h.1]
    by_cases h3 : j < 323
    · rw [if_pos h3, if_pos (by omega)]
      congr 1
      omega
    · rw [if_neg h3]
      by_cases h4 : (j - 323) % 2 = 0
      · rw [if_pos h4, if_neg (by omega), if_pos rfl]
        congr 1
        omega
      · rw [if_neg h4, if_neg (by omega), if_neg (by omega)]
        congr 1
        omega
  · rw [if_neg h]
theorem pt_pt (mu T T' : Mem) (r : Nat) : ptT (ptT mu r T) r T' = ptT mu r T' := by
  funext a j; unfold ptT; split <;> rfl
/-- what is in the rows of T -/
def Tin (w : Nat) (i : Int) : Prop := 0 ≤ i ∧ i < (if w ≤ 8 then 32 else 16)
def TB (N : Int) (T : Mem) : Prop := (∀ w i, Tin w i → -N ≤ T w i ∧ T w i ≤ N) ∧ (∀ i, Tin 1 i → -1 ≤ T 1 i ∧ T 1 i ≤ 31) ∧ (∀ i, Tin 9 i → -1 ≤ T 9 i ∧ T 9 i ≤ 31)
theorem TB.mono {N M : Int} {T : Mem} (h : TB N T) (hN : N ≤ M) : TB M T := ⟨fun w i hi => by have := h.1 w i hi; omega, h.2⟩
theorem TB.n {N : Int} {T : Mem} (h : TB N T) (w : Nat) (hw : w ≤ 8) {i : Int} (hi : 0 ≤ i ∧ i < 32) : -N ≤ T w i ∧ T w i ≤ N := h.1 w i ⟨hi.1, by rw [if_pos hw]; exact hi.2⟩
theorem TB.q {N : Int} {T : Mem} (h : TB N T) (w : Nat) (hw : ¬ w ≤ 8) {i : Int} (hi : 0 ≤ i ∧ i < 16) : -N ≤ T w i ∧ T w i ≤ N := h.1 w i ⟨hi.1, by rw [if_neg hw]; exact hi.2⟩
theorem TB.p {N : Int} {T : Mem} (h : TB N T) {i : Int} (hi : 0 ≤ i ∧ i < 32) : -1 ≤ T 1 i ∧ T 1 i ≤ 31 := h.2.1 i ⟨hi.1, by rw [if_pos (by decide)]; exact hi.2⟩
theorem TB.g {N : Int} {T : Mem} (h : TB N T) {i : Int} (hi : 0 ≤ i ∧ i < 16) : -1 ≤ T 9 i ∧ T 9 i ≤ 31 := h.2.2 i ⟨hi.1, by rw [if_neg (by decide)]; exact hi.2⟩
theorem TB.upd {N : Int} {T : Mem} (h : TB N T) (w : Nat) (i : Int) {v : Int} (hv : -N ≤ v ∧ v ≤ N) (h1 : w = 1 → -1 ≤ v ∧ v ≤ 31) (h9 : w = 9 → -1 ≤ v ∧ v ≤ 31) : TB N (up T w i v) := by
  refine ⟨fun w' i' hi => ?_, fun i' hi => ?_, fun i' hi => ?_⟩
  · unfold up; split
    · exact hv
    · exact h.1 w' i' hi
  · unfold up; split
    · rename_i z; exact h1 z.1.symm
    · exact h.2.1 i' hi
  · unfold up; split
    · rename_i z; exact h9 z.1.symm
    · exact h.2.2 i' hi
/-- sums, first and last places of what a function marks by 1 -/
def smG (f : Int → Int) : Nat → Int
  | 0 => 0
  | m + 1 => smG f m + f m
def laG (f : Int → Int) : Nat → Int
  | 0 => -1
  | m + 1 => if f m = 1 then (m : Int) else laG f m
def fmG (f : Int → Int) (e : Int) : Nat → Int
  | 0 => -1
  | d + 1 => if f (e - ((d : Int) + 1)) = 1 then e - ((d : Int) + 1) else fmG f e d
theorem laG_b (f : Int → Int) : ∀ m, -1 ≤ laG f m ∧ laG f m < m
  | 0 => by simp [laG]
  | m + 1 => by have := laG_b f m; rw [laG]; split <;> omega
theorem fmG_b (f : Int → Int) (e : Int) : ∀ d : Nat, d ≤ e → -1 ≤ fmG f e d ∧ fmG f e d < e
  | 0, h => by simp only [fmG]; omega
  | d + 1, h => by have := fmG_b f e d (by omega); rw [fmG]; split <;> omega
theorem smG_b (f : Int → Int) (h : ∀ i, 0 ≤ f i ∧ f i ≤ 1) : ∀ m : Nat, 0 ≤ smG f m ∧ smG f m ≤ m
  | 0 => by simp [smG]
  | m + 1 => by have := smG_b f h m; have := h m; rw [smG]; omega
def inI (v lo hi : Int) : Int := if lo ≤ v ∧ v ≤ hi then 1 else 0
theorem inI_b (v lo hi : Int) : 0 ≤ inI v lo hi ∧ inI v lo hi ≤ 1 := by unfold inI; split <;> omega
def isT (T : Mem) (h o : Int) : Int := if (1 ≤ T 0 o ∧ T 0 o ≤ 3) ∧ T 1 o = h then 1 else 0
def isC (T : Mem) (h k o : Int) : Int := if (1 ≤ T 0 o ∧ T 0 o ≤ 3) ∧ T 1 o = h ∧ T 2 o = k then 1 else 0
def ind (T : Mem) (w : Nat) (k o : Int) : Int := if T w o = k then 1 else 0
def isP (T : Mem) (g k o : Int) : Int := if T 9 o = g ∧ T 10 o = k then 1 else 0
theorem isT_b (T : Mem) (h o : Int) : 0 ≤ isT T h o ∧ isT T h o ≤ 1 := by unfold isT; split <;> omega
theorem ind_b (T : Mem) (w : Nat) (h o : Int) : 0 ≤ ind T w h o ∧ ind T w h o ≤ 1 := by unfold ind; split <;> omega
def spT (T : Mem) (x : Int) : Int := if T 0 x = 2 ∨ T 0 x = 3 then 1 else 0
theorem spT_b (T : Mem) (x : Int) : 0 ≤ spT T x ∧ spT T x ≤ 1 := by unfold spT; split <;> omega
def kdT (T : Mem) (h : Int) : Int := smG (isT T h) 32
def chT (T : Mem) (h k : Int) : Int := laG (isC T h k) 32
def tbT (T : Mem) (P : Int) (g : Int) : Int := smG (ind T 9 g) P.toNat
def toT (T : Mem) (P : Int) (g k : Int) : Int := laG (isP T g k) P.toNat
def ctT (T : Mem) (k : Int) : Int := smG (ind T 0 k) 32
def rtT (T : Mem) : Int := fmG (isT T (-1)) 32 32
def frT (T : Mem) : Int := fmG (ind T 0 0) 32 32
def sxT (T : Mem) (p : Int) : Int := if T 9 p = -1 then 0 else if T 0 (T 9 p) = 4 then 2 else 1
theorem kdT_b (T : Mem) (h : Int) : 0 ≤ kdT T h ∧ kdT T h ≤ 32 := smG_b _ (isT_b T h) 32
theorem chT_b (T : Mem) (h k : Int) : -1 ≤ chT T h k ∧ chT T h k < 32 := laG_b _ 32
theorem ctT_b (T : Mem) (k : Int) : 0 ≤ ctT T k ∧ ctT T k ≤ 32 := smG_b _ (ind_b T 0 k) 32
theorem rtT_b (T : Mem) : -1 ≤ rtT T ∧ rtT T < 32 := fmG_b _ 32 32 (by decide)
theorem tbT_b (T : Mem) {P : Int} (hP : 0 ≤ P ∧ P ≤ 16) (g : Int) : 0 ≤ tbT T P g ∧ tbT T P g ≤ 16 := by
  have := smG_b _ (ind_b T 9 g) P.toNat
  unfold tbT; omega
theorem toT_b (T : Mem) {P : Int} (hP : 0 ≤ P ∧ P ≤ 16) (g k : Int) : -1 ≤ toT T P g k ∧ toT T P g k < 16 := by
  have := laG_b (isP T g k) P.toNat
  unfold toT; omega
section VJ
variable {X : Cx} {cc : ByteArray} {Ts : List Cond} {own : String} {ret : Option FieldType} {fr nL : Nat} {pc : Nat} {r : Rg} {st : List Value} {S : Sh} {n : Nat} {mu : Mem} {la : Lam} {k sl : Nat}
theorem V_ialdJ (C : Ok X cc Ts own ret fr nL) {a m : Nat} {i x : Int} (hd : decode cc pc = .ok (.iaload, 1)) (hx : hasS S a (.inl (0, m))) (hm : m < 2147483648) (hi : 0 ≤ i ∧ i < m) (hv : mu a i = x)
    (kk : V X (pc + 1) r (.int (I32 x) :: st) S n mu la k sl) : V X pc r (.int (I32 i) :: .ref a :: st) S n mu la k sl := by
  subst hv; exact V_iald C hd hx hm hi kk
theorem V_iastJ (C : Ok X cc Ts own ret fr nL) {a m : Nat} {i v : Int} {mu' : Mem} (hd : decode cc pc = .ok (.iastore, 1)) (hx : hasS S a (.inl (0, m))) (hm : m < 2147483648) (hi : 0 ≤ i ∧ i < m) (hv : up mu a i v = mu')
    (kk : V X (pc + 1) r st S n mu' la k sl) : V X pc r (.int (I32 v) :: .int (I32 i) :: .ref a :: st) S n mu la k sl := by
  subst hv; exact V_iast C hd hx hm hi kk
end VJ
section M1
variable {G : Gx} {l : Launch} {S : Sh} {n : Nat} {mu T : Mem} {la : Lam} {r : Nat}
def cqP (mu : Mem) (a b : Nat) (j : Int) : Mem := fun x i => if x = b ∧ 0 ≤ i ∧ i < j then mu a i else mu x i
theorem cqP_0 (mu : Mem) (a b : Nat) : cqP mu a b 0 = mu := by funext x i; unfold cqP; rw [if_neg (by omega)]
theorem cqP_j (mu : Mem) (a b : Nat) (j : Int) : cqP mu a b j a j = mu a j := by unfold cqP; rw [if_neg (by omega)]
theorem cqP_s {mu : Mem} {a b : Nat} {j : Int} (hj : 0 ≤ j) : up (cqP mu a b j) b j (mu a j) = cqP mu a b (j + 1) := by
  funext x i
  unfold up cqP
  try dsimp only
  by_cases q : x = b ∧ i = j
  · rw [if_pos q, if_pos (by omega), q.2]
  · rw [if_neg q]
    by_cases q2 : x = b ∧ 0 ≤ i ∧ i < j
    · rw [if_pos q2, if_pos (by omega)]
    · rw [if_neg q2, if_neg (by omega)]
def clT (T : Mem) (x : Int) : Nat → Mem
  | 0 => T
  | w + 1 => up (clT T x w) w x 0
end M1
