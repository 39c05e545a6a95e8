/-! THE REFERENCE (DockTreeModel), at r; its rows r + 1 .. r + 16. The tree of a state is seen as a memory T: rows 0 .. 8 what a node holds, 9 the groups of the panes, 10 their places. -/
def MoS (S : Sh) (r : Nat) : Prop :=
  hasS S r (.inr (.inr (7, [.inl (.ref (r + 1)), .inl (.ref (r + 2)), .inl (.ref (r + 3)), .inl (.ref (r + 4)), .inr 0, .inl (.ref (r + 5)), .inr 0, .inr 0, .inl (.ref (r + 6)), .inr 0, .inl (.ref (r + 7)), .inl (.ref (r + 8)), .inl (.ref (r + 9)), .inl (.ref (r + 10)), .inl (.ref (r + 11)), .inl (.ref (r + 12)), .inl (.ref (r + 13)), .inl (.ref (r + 14)), .inl (.ref (r + 15)), .inr 0, .inr 0, .inr 1, .inl (.ref (r + 16)), .inr 1]))) ∧
  hasS S (r + 1) (.inl (0, 1639)) ∧ hasS S (r + 2) (.inl (0, 6556)) ∧ hasS S (r + 3) (.inl (0, 1639)) ∧ hasS S (r + 4) (.inl (0, 1639)) ∧ hasS S (r + 5) (.inl (0, 150)) ∧
  (∀ k, 6 ≤ k ∧ k ≤ 13 → hasS S (r + k) (.inl (0, 32))) ∧ hasS S (r + 14) (.inl (0, 16)) ∧ hasS S (r + 15) (.inl (0, 16)) ∧ hasS S (r + 16) (.inl (0, 5))
def ptT (mu : Mem) (r : Nat) (T : Mem) : Mem := fun a j => if a = r + 1 ∧ 35 ≤ j ∧ j < 355 then (if j < 323 then T ((j - 35) % 9).toNat ((j - 35) / 9) else if (j - 323) % 2 = 0 then T 9 ((j - 323) / 2) else T 10 ((j - 323) / 2)) else mu a j
def trT (mu : Mem) (r : Nat) : Mem := fun w i => if w ≤ 8 then mu (r + 1) (35 + 9 * i + w) else if w = 9 then mu (r + 1) (323 + 2 * i) else mu (r + 1) (323 + 2 * i + 1)
theorem pt_r {mu T : Mem} {r : Nat} {j : Int} : ptT mu r T r j = mu r j := by unfold ptT; rw [if_neg (by omega)]
theorem pt_a {mu T : Mem} {r a : Nat} {j : Int} (h : a ≠ r + 1) : ptT mu r T a j = mu a j := by unfold ptT; rw [if_neg (by omega)]
theorem pt_lo {mu T : Mem} {r : Nat} {j : Int} (h : j < 35 ∨ 355 ≤ j) : ptT mu r T (r + 1) j = mu (r + 1) j := by unfold ptT; rw [if_neg (by omega)]
theorem pt_n {mu T : Mem} {r w : Nat} {i : Int} (hi : 0 ≤ i ∧ i < 32) (hw : w ≤ 8) : ptT mu r T (r + 1) (35 + 9 * i + w) = T w i := by
  unfold ptT
  rw [if_pos (by omega), if_pos (by omega), show ((35 + 9 * i + (w : Int) - 35) % 9).toNat = w by omega, show (35 + 9 * i + (w : Int) - 35) / 9 = i by omega]
theorem pt_g {mu T : Mem} {r : Nat} {i : Int} (hi : 0 ≤ i ∧ i < 16) : ptT mu r T (r + 1) (323 + 2 * i) = T 9 i := by
  unfold ptT
  rw [if_pos (by omega), if_neg (by omega), if_pos (by omega), show (323 + 2 * i - 323) / 2 = i by omega]
theorem pt_p {mu T : Mem} {r : Nat} {i : Int} (hi : 0 ≤ i ∧ i < 16) : ptT mu r T (r + 1) (323 + 2 * i + 1) = T 10 i := by
  unfold ptT
  rw [if_pos (by omega), if_neg (by omega), if_neg (by omega), show (323 + 2 * i + 1 - 323) / 2 = i by omega]
theorem ptu_r {mu T : Mem} {r : Nat} {j v : Int} : up (ptT mu r T) r j v = ptT (up mu r j v) r T := by
  funext a k; unfold up ptT; try dsimp only
  by_cases h : a = r ∧ k = j
  · rw [if_pos h, if_neg (by omega), if_pos h]
  · rw [if_neg h, if_neg h]
theorem ptu_a {mu T : Mem} {r b : Nat} {j v : Int} (hb : b ≠ r + 1) : up (ptT mu r T) b j v = ptT (up mu b j v) r T := by
  funext a k; unfold up ptT; try dsimp only
  by_cases h : a = b ∧ k = j
  · rw [if_pos h, if_neg (by omega), if_pos h]
  · rw [if_neg h, if_neg h]
theorem ptu_lo {mu T : Mem} {r : Nat} {j v : Int} (hj : j < 35 ∨ 355 ≤ j) : up (ptT mu r T) (r + 1) j v = ptT (up mu (r + 1) j v) r T := by
  funext a k; unfold up ptT; try dsimp only
  by_cases h : a = r + 1 ∧ k = j
  · rw [if_pos h, if_neg (by omega), if_pos h]
  · rw [if_neg h, if_neg h]
theorem ptu_n {mu T : Mem} {r w : Nat} {i v : Int} (hi : 0 ≤ i ∧ i < 32) (hw : w ≤ 8) : up (ptT mu r T) (r + 1) (35 + 9 * i + w) v = ptT mu r (up T w i v) := by
  funext a k; unfold up ptT; try dsimp only
  by_cases h : a = r + 1 ∧ k = 35 + 9 * i + w
  · rw [if_pos h, if_pos (by omega), if_pos (by omega), if_pos (by omega)]
  · rw [if_neg h]
    by_cases h2 : a = r + 1 ∧ 35 ≤ k ∧ k < 355
    · rw [if_pos h2, if_pos h2]
      by_cases h3 : k < 323
      · rw [if_pos h3, if_pos h3, if_neg (by omega)]
      · rw [if_neg h3, if_neg h3]
        by_cases h4 : (k - 323) % 2 = 0
        · rw [if_pos h4, if_pos h4, if_neg (by omega)]
        · rw [if_neg h4, if_neg h4, if_neg (by omega)]
    · rw [if_neg h2, if_neg h2]
theorem ptu_g {mu T : Mem} {r : Nat} {i v : Int} (hi : 0 ≤ i ∧ i < 16) : up (ptT mu r T) (r + 1) (323 + 2 * i) v = ptT mu r (up T 9 i v) := by
  funext a k; unfold up ptT; try dsimp only
  by_cases h : a = r + 1 ∧ k = 323 + 2 * i
  · rw [if_pos h, if_pos (by omega), if_neg (by omega), if_pos (by omega), if_pos (by omega)]
  · rw [if_neg h]
    by_cases h2 : a = r + 1 ∧ 35 ≤ k ∧ k < 355
    · rw [if_pos h2, if_pos h2]
      by_cases h3 : k < 323
      · rw [if_pos h3, if_pos h3, if_neg (by omega)]
      · rw [if_neg h3, if_neg h3]
        by_cases h4 : (k - 323) % 2 = 0
        · rw [if_pos h4, if_pos h4, if_neg (by omega)]
        · rw [if_neg h4, if_neg h4, if_neg (by omega)]
    · rw [if_neg h2, if_neg h2]
theorem ptu_p {mu T : Mem} {r : Nat} {i v : Int} (hi : 0 ≤ i ∧ i < 16) : up (ptT mu r T) (r + 1) (323 + 2 * i + 1) v = ptT mu r (up T 10 i v) := by
  funext a k; unfold up ptT; try dsimp only
  by_cases h : a = r + 1 ∧ k = 323 + 2 * i + 1
  · rw [if_pos h, if_pos (by omega), if_neg (by omega), if_neg (by omega), if_pos (by omega)]
  · rw [if_neg h]
    by_cases h2 : a = r + 1 ∧ 35 ≤ k ∧ k < 355
    · rw [if_pos h2, if_pos h2]
      by_cases h3 : k < 323
      · rw [if_pos h3, if_pos h3, if_neg (by omega)]
      · rw [if_neg h3, if_neg h3]
        by_cases h4 : (k - 323) % 2 = 0
        · rw [if_pos h4, if_pos h4, if_neg (by omega)]
        · rw [if_neg h4, if_neg h4, if_neg (by omega)]
    · rw [if_neg h2, if_neg h2]
theorem pt_self (mu : Mem) (r : Nat) : ptT mu r (trT mu r) = mu := by
  funext a j
  unfold ptT trT
  by_cases h : a = r + 1 ∧ 35 ≤ j ∧ j < 355
  · rw [if_pos h, h.1]
    by_cases h3 : j < 323
    · rw [if_pos h3, if_pos (by omega)]
      congr 1
      omega
    · rw [if_neg h3]
      by_cases h4 : (j - 323) % 2 = 0
      · rw [if_pos h4, if_neg (by omega), if_pos rfl]
        congr 1
        omega
      · rw [if_neg h4, if_neg (by omega), if_neg (by omega)]
        congr 1
        omega
  · rw [if_neg h]
theorem pt_pt (mu T T' : Mem) (r : Nat) : ptT (ptT mu r T) r T' = ptT mu r T' := by
  funext a j; unfold ptT; split <;> rfl
/-- what is in the rows of T -/
def Tin (w : Nat) (i : Int) : Prop := 0 ≤ i ∧ i < (if w ≤ 8 then 32 else 16)
def TB (N : Int) (T : Mem) : Prop := (∀ w i, Tin w i → -N ≤ T w i ∧ T w i ≤ N) ∧ (∀ i, Tin 1 i → -1 ≤ T 1 i ∧ T 1 i ≤ 31) ∧ (∀ i, Tin 9 i → -1 ≤ T 9 i ∧ T 9 i ≤ 31)
theorem TB.mono {N M : Int} {T : Mem} (h : TB N T) (hN : N ≤ M) : TB M T := ⟨fun w i hi => by have := h.1 w i hi; omega, h.2⟩
theorem TB.n {N : Int} {T : Mem} (h : TB N T) (w : Nat) (hw : w ≤ 8) {i : Int} (hi : 0 ≤ i ∧ i < 32) : -N ≤ T w i ∧ T w i ≤ N := h.1 w i ⟨hi.1, by rw [if_pos hw]; exact hi.2⟩
theorem TB.q {N : Int} {T : Mem} (h : TB N T) (w : Nat) (hw : ¬ w ≤ 8) {i : Int} (hi : 0 ≤ i ∧ i < 16) : -N ≤ T w i ∧ T w i ≤ N := h.1 w i ⟨hi.1, by rw [if_neg hw]; exact hi.2⟩
theorem TB.p {N : Int} {T : Mem} (h : TB N T) {i : Int} (hi : 0 ≤ i ∧ i < 32) : -1 ≤ T 1 i ∧ T 1 i ≤ 31 := h.2.1 i ⟨hi.1, by rw [if_pos (by decide)]; exact hi.2⟩
theorem TB.g {N : Int} {T : Mem} (h : TB N T) {i : Int} (hi : 0 ≤ i ∧ i < 16) : -1 ≤ T 9 i ∧ T 9 i ≤ 31 := h.2.2 i ⟨hi.1, by rw [if_neg (by decide)]; exact hi.2⟩
theorem TB.upd {N : Int} {T : Mem} (h : TB N T) (w : Nat) (i : Int) {v : Int} (hv : -N ≤ v ∧ v ≤ N) (h1 : w = 1 → -1 ≤ v ∧ v ≤ 31) (h9 : w = 9 → -1 ≤ v ∧ v ≤ 31) : TB N (up T w i v) := by
  refine ⟨fun w' i' hi => ?_, fun i' hi => ?_, fun i' hi => ?_⟩
  · unfold up; split
    · exact hv
    · exact h.1 w' i' hi
  · unfold up; split
    · rename_i z; exact h1 z.1.symm
    · exact h.2.1 i' hi
  · unfold up; split
    · rename_i z; exact h9 z.1.symm
    · exact h.2.2 i' hi
/-- sums, first and last places of what a function marks by 1 -/
def smG (f : Int → Int) : Nat → Int
  | 0 => 0
  | m + 1 => smG f m + f m
def laG (f : Int → Int) : Nat → Int
  | 0 => -1
  | m + 1 => if f m = 1 then (m : Int) else laG f m
def fmG (f : Int → Int) (e : Int) : Nat → Int
  | 0 => -1
  | d + 1 => if f (e - ((d : Int) + 1)) = 1 then e - ((d : Int) + 1) else fmG f e d
theorem laG_b (f : Int → Int) : ∀ m, -1 ≤ laG f m ∧ laG f m < m
  | 0 => by simp [laG]
  | m + 1 => by have := laG_b f m; rw [laG]; split <;> omega
theorem fmG_b (f : Int → Int) (e : Int) : ∀ d : Nat, d ≤ e → -1 ≤ fmG f e d ∧ fmG f e d < e
  | 0, h => by simp only [fmG]; omega
  | d + 1, h => by have := fmG_b f e d (by omega); rw [fmG]; split <;> omega
theorem smG_b (f : Int → Int) (h : ∀ i, 0 ≤ f i ∧ f i ≤ 1) : ∀ m : Nat, 0 ≤ smG f m ∧ smG f m ≤ m
  | 0 => by simp [smG]
  | m + 1 => by have := smG_b f h m; have := h m; rw [smG]; omega
def inI (v lo hi : Int) : Int := if lo ≤ v ∧ v ≤ hi then 1 else 0
theorem inI_b (v lo hi : Int) : 0 ≤ inI v lo hi ∧ inI v lo hi ≤ 1 := by unfold inI; split <;> omega
def isT (T : Mem) (h o : Int) : Int := if (1 ≤ T 0 o ∧ T 0 o ≤ 3) ∧ T 1 o = h then 1 else 0
def isC (T : Mem) (h k o : Int) : Int := if (1 ≤ T 0 o ∧ T 0 o ≤ 3) ∧ T 1 o = h ∧ T 2 o = k then 1 else 0
def ind (T : Mem) (w : Nat) (k o : Int) : Int := if T w o = k then 1 else 0
def isP (T : Mem) (g k o : Int) : Int := if T 9 o = g ∧ T 10 o = k then 1 else 0
theorem isT_b (T : Mem) (h o : Int) : 0 ≤ isT T h o ∧ isT T h o ≤ 1 := by unfold isT; split <;> omega
theorem ind_b (T : Mem) (w : Nat) (h o : Int) : 0 ≤ ind T w h o ∧ ind T w h o ≤ 1 := by unfold ind; split <;> omega
def spT (T : Mem) (x : Int) : Int := if T 0 x = 2 ∨ T 0 x = 3 then 1 else 0
theorem spT_b (T : Mem) (x : Int) : 0 ≤ spT T x ∧ spT T x ≤ 1 := by unfold spT; split <;> omega
def kdT (T : Mem) (h : Int) : Int := smG (isT T h) 32
def chT (T : Mem) (h k : Int) : Int := laG (isC T h k) 32
def tbT (T : Mem) (P : Int) (g : Int) : Int := smG (ind T 9 g) P.toNat
def toT (T : Mem) (P : Int) (g k : Int) : Int := laG (isP T g k) P.toNat
def ctT (T : Mem) (k : Int) : Int := smG (ind T 0 k) 32
def rtT (T : Mem) : Int := fmG (isT T (-1)) 32 32
def frT (T : Mem) : Int := fmG (ind T 0 0) 32 32
def sxT (T : Mem) (p : Int) : Int := if T 9 p = -1 then 0 else if T 0 (T 9 p) = 4 then 2 else 1
theorem kdT_b (T : Mem) (h : Int) : 0 ≤ kdT T h ∧ kdT T h ≤ 32 := smG_b _ (isT_b T h) 32
theorem chT_b (T : Mem) (h k : Int) : -1 ≤ chT T h k ∧ chT T h k < 32 := laG_b _ 32
theorem ctT_b (T : Mem) (k : Int) : 0 ≤ ctT T k ∧ ctT T k ≤ 32 := smG_b _ (ind_b T 0 k) 32
theorem rtT_b (T : Mem) : -1 ≤ rtT T ∧ rtT T < 32 := fmG_b _ 32 32 (by decide)
theorem tbT_b (T : Mem) {P : Int} (hP : 0 ≤ P ∧ P ≤ 16) (g : Int) : 0 ≤ tbT T P g ∧ tbT T P g ≤ 16 := by
  have := smG_b _ (ind_b T 9 g) P.toNat
  unfold tbT; omega
theorem toT_b (T : Mem) {P : Int} (hP : 0 ≤ P ∧ P ≤ 16) (g k : Int) : -1 ≤ toT T P g k ∧ toT T P g k < 16 := by
  have := laG_b (isP T g k) P.toNat
  unfold toT; omega
section VJ
variable {X : Cx} {cc : ByteArray} {Ts : List Cond} {own : String} {ret : Option FieldType} {fr nL : Nat} {pc : Nat} {r : Rg} {st : List Value} {S : Sh} {n : Nat} {mu : Mem} {la : Lam} {k sl : Nat}
theorem V_ialdJ (C : Ok X cc Ts own ret fr nL) {a m : Nat} {i x : Int} (hd : decode cc pc = .ok (.iaload, 1)) (hx : hasS S a (.inl (0, m))) (hm : m < 2147483648) (hi : 0 ≤ i ∧ i < m) (hv : mu a i = x)
    (kk : V X (pc + 1) r (.int (I32 x) :: st) S n mu la k sl) : V X pc r (.int (I32 i) :: .ref a :: st) S n mu la k sl := by
  subst hv; exact V_iald C hd hx hm hi kk
theorem V_iastJ (C : Ok X cc Ts own ret fr nL) {a m : Nat} {i v : Int} {mu' : Mem} (hd : decode cc pc = .ok (.iastore, 1)) (hx : hasS S a (.inl (0, m))) (hm : m < 2147483648) (hi : 0 ≤ i ∧ i < m) (hv : up mu a i v = mu')
    (kk : V X (pc + 1) r st S n mu' la k sl) : V X pc r (.int (I32 v) :: .int (I32 i) :: .ref a :: st) S n mu la k sl := by
  subst hv; exact V_iast C hd hx hm hi kk
end VJ
section M1
variable {G : Gx} {l : Launch} {S : Sh} {n : Nat} {mu T : Mem} {la : Lam} {r : Nat}
theorem dX9_thrown_0 : decode cX9_thrown 0 = .ok (.aload_n 0, 1) := by decide +kernel
theorem dX9_thrown_1 : decode cX9_thrown 1 = .ok (.getfield 58, 3) := by decide +kernel
theorem dX9_thrown_4 : decode cX9_thrown 4 = .ok (.ireturn, 1) := by decide +kernel
theorem hin_X9_thrown_X9 : ∀ w ∈ wsX90, w ∈ wsX9_thrown := by decide +kernel
theorem lk_X9_thrown_58 : Cond.fieldLink RX9 58 RX9 "thrown" "I" ∈ wsX9_thrown := by decide +kernel
theorem m_thrown (hG : GP G) (hM : MoS S r) : Ct G l yX9_thrown wsX9_thrown 0 0 0 [.ref r] S n mu la (Dt (some (.int (I32 (mu r 7)))) S n mu la) := by
  have o9 := hM.1
  refine Ct.ofV (cc := cX9_thrown) (nL := 1) (ret := (some .int)) [some (.ref r)] hG (by decide) rfl (Nat.le_of_ble_eq_true rfl) rfl ?_
  rintro X rfl rfl C hcl hsl E
  refine V_aload_n C dX9_thrown_0 rfl ?_
  refine V_getJ C 7 7 rfl dX9_thrown_1 o9 rfl hin_X9_thrown_X9 (by decide) lk_X9_thrown_58 rfl rfl rfl ?_
  refine V_ireturn C E dX9_thrown_4 (by omega) (by omega) ?_
  exact Dt_rfl
theorem dX9_in_0 : decode cX9_in 0 = .ok (.iload_n 0, 1) := by decide +kernel
theorem dX9_in_1 : decode cX9_in 1 = .ok (.iload_n 1, 1) := by decide +kernel
theorem dX9_in_2 : decode cX9_in 2 = .ok (.if_icmp .lt 12, 3) := by decide +kernel
theorem dX9_in_5 : decode cX9_in 5 = .ok (.iload_n 0, 1) := by decide +kernel
theorem dX9_in_6 : decode cX9_in 6 = .ok (.iload_n 2, 1) := by decide +kernel
theorem dX9_in_7 : decode cX9_in 7 = .ok (.if_icmp .gt 7, 3) := by decide +kernel
theorem dX9_in_10 : decode cX9_in 10 = .ok (.iconst 1, 1) := by decide +kernel
theorem dX9_in_11 : decode cX9_in 11 = .ok (.goto 4, 3) := by decide +kernel
theorem dX9_in_14 : decode cX9_in 14 = .ok (.iconst 0, 1) := by decide +kernel
theorem dX9_in_15 : decode cX9_in 15 = .ok (.ireturn, 1) := by decide +kernel
theorem m_in (hG : GP G) {x y z : Int} (hx : -2147483648 ≤ x ∧ x ≤ 2147483647) (hy : -2147483648 ≤ y ∧ y ≤ 2147483647) (hz : -2147483648 ≤ z ∧ z ≤ 2147483647) : Ct G l yX9_in wsX9_in 0 0 0 [.int (I32 x), .int (I32 y), .int (I32 z)] S n mu la (Dt (some (.int (I32 (inI x y z)))) S n mu la) := by
  refine Ct.ofV (cc := cX9_in) (nL := 3) (ret := (some .boolean)) [some (.int (I32 x)), some (.int (I32 y)), some (.int (I32 z))] hG (by decide) rfl (Nat.le_of_ble_eq_true rfl) rfl ?_
  rintro X rfl rfl C hcl hsl E
  refine V_iload_n C dX9_in_0 rfl ?_
  refine V_iload_n C dX9_in_1 rfl ?_
  refine V_icmp_lt C 14 dX9_in_2 (by decide) (by omega) (by omega) (fun z2 => ?_) (fun z2 => ?_)
  · refine V_iconst C dX9_in_14 ?_
    refine V_zreturn C E (by first | exact Or.inl rfl | exact Or.inr rfl) dX9_in_15 (by omega) (by omega) ?_
    exact Dt_int (by unfold inI; (repeat' split) <;> first | rfl | omega)
  · refine V_iload_n C dX9_in_5 rfl ?_
    refine V_iload_n C dX9_in_6 rfl ?_
    refine V_icmp_gt C 14 dX9_in_7 (by decide) (by omega) (by omega) (fun z7 => ?_) (fun z7 => ?_)
    · refine V_iconst C dX9_in_14 ?_
      refine V_zreturn C E (by first | exact Or.inl rfl | exact Or.inr rfl) dX9_in_15 (by omega) (by omega) ?_
      exact Dt_int (by unfold inI; (repeat' split) <;> first | rfl | omega)
    · refine V_iconst C dX9_in_10 ?_
      refine V_goto C 15 dX9_in_11 (by decide) ?_
      refine V_zreturn C E (by first | exact Or.inl rfl | exact Or.inr rfl) dX9_in_15 (by omega) (by omega) ?_
      exact Dt_int (by unfold inI; (repeat' split) <;> first | rfl | omega)
theorem dX9_fails_0 : decode cX9_fails 0 = .ok (.aload_n 0, 1) := by decide +kernel
theorem dX9_fails_1 : decode cX9_fails 1 = .ok (.iload_n 1, 1) := by decide +kernel
theorem dX9_fails_2 : decode cX9_fails 2 = .ok (.putfield 58, 3) := by decide +kernel
theorem dX9_fails_5 : decode cX9_fails 5 = .ok (.iconst 0, 1) := by decide +kernel
theorem dX9_fails_6 : decode cX9_fails 6 = .ok (.ireturn, 1) := by decide +kernel
theorem hin_X9_fails_X9 : ∀ w ∈ wsX90, w ∈ wsX9_fails := by decide +kernel
theorem lk_X9_fails_58 : Cond.fieldLink RX9 58 RX9 "thrown" "I" ∈ wsX9_fails := by decide +kernel
theorem m_fails (hG : GP G) (hM : MoS S r) {x : Int} : Ct G l yX9_fails wsX9_fails 0 0 0 [.ref r, .int (I32 x)] S n mu la (Dt (some (.int (I32 0))) S n (up mu r 7 x) la) := by
  have o9 := hM.1
  refine Ct.ofV (cc := cX9_fails) (nL := 2) (ret := (some .int)) [some (.ref r), some (.int (I32 x))] hG (by decide) rfl (Nat.le_of_ble_eq_true rfl) rfl ?_
  rintro X rfl rfl C hcl hsl E
  refine V_aload_n C dX9_fails_0 rfl ?_
  refine V_iload_n C dX9_fails_1 rfl ?_
  refine V_putJ C 7 7 rfl dX9_fails_2 o9 rfl hin_X9_fails_X9 tyX9 tyX9_ok nmX9 (by decide) lk_X9_fails_58 rfl rfl (by decide +kernel) rfl rfl ?_
  refine V_iconst C dX9_fails_5 ?_
  refine V_ireturn C E dX9_fails_6 (by omega) (by omega) ?_
  exact Dt_rfl
theorem dX9_tells_0 : decode cX9_tells 0 = .ok (.aload_n 0, 1) := by decide +kernel
theorem dX9_tells_1 : decode cX9_tells 1 = .ok (.iconst 0, 1) := by decide +kernel
theorem dX9_tells_2 : decode cX9_tells 2 = .ok (.putfield 58, 3) := by decide +kernel
theorem dX9_tells_5 : decode cX9_tells 5 = .ok (.iload_n 1, 1) := by decide +kernel
theorem dX9_tells_6 : decode cX9_tells 6 = .ok (.ireturn, 1) := by decide +kernel
theorem hin_X9_tells_X9 : ∀ w ∈ wsX90, w ∈ wsX9_tells := by decide +kernel
theorem lk_X9_tells_58 : Cond.fieldLink RX9 58 RX9 "thrown" "I" ∈ wsX9_tells := by decide +kernel
theorem m_tells (hG : GP G) (hM : MoS S r) {x : Int} : Ct G l yX9_tells wsX9_tells 0 0 0 [.ref r, .int (I32 x)] S n mu la (Dt (some (.int (I32 x))) S n (up mu r 7 0) la) := by
  have o9 := hM.1
  refine Ct.ofV (cc := cX9_tells) (nL := 2) (ret := (some .int)) [some (.ref r), some (.int (I32 x))] hG (by decide) rfl (Nat.le_of_ble_eq_true rfl) rfl ?_
  rintro X rfl rfl C hcl hsl E
  refine V_aload_n C dX9_tells_0 rfl ?_
  refine V_iconst C dX9_tells_1 ?_
  refine V_putJ C 7 7 rfl dX9_tells_2 o9 rfl hin_X9_tells_X9 tyX9 tyX9_ok nmX9 (by decide) lk_X9_tells_58 rfl rfl (by decide +kernel) rfl rfl ?_
  refine V_iload_n C dX9_tells_5 rfl ?_
  refine V_ireturn C E dX9_tells_6 (by omega) (by omega) ?_
  exact Dt_rfl
theorem dX9_copies_0 : decode cX9_copies 0 = .ok (.iconst 0, 1) := by decide +kernel
theorem dX9_copies_1 : decode cX9_copies 1 = .ok (.istore_n 2, 1) := by decide +kernel
theorem dX9_copies_2 : decode cX9_copies 2 = .ok (.iload_n 2, 1) := by decide +kernel
theorem dX9_copies_3 : decode cX9_copies 3 = .ok (.sipush 1639, 3) := by decide +kernel
theorem dX9_copies_6 : decode cX9_copies 6 = .ok (.if_icmp .ge 15, 3) := by decide +kernel
theorem dX9_copies_9 : decode cX9_copies 9 = .ok (.aload_n 0, 1) := by decide +kernel
theorem dX9_copies_10 : decode cX9_copies 10 = .ok (.iload_n 2, 1) := by decide +kernel
theorem dX9_copies_11 : decode cX9_copies 11 = .ok (.aload_n 1, 1) := by decide +kernel
theorem dX9_copies_12 : decode cX9_copies 12 = .ok (.iload_n 2, 1) := by decide +kernel
theorem dX9_copies_13 : decode cX9_copies 13 = .ok (.iaload, 1) := by decide +kernel
theorem dX9_copies_14 : decode cX9_copies 14 = .ok (.iastore, 1) := by decide +kernel
theorem dX9_copies_15 : decode cX9_copies 15 = .ok (.iinc 2 1, 3) := by decide +kernel
theorem dX9_copies_18 : decode cX9_copies 18 = .ok (.goto (-16), 3) := by decide +kernel
theorem dX9_copies_21 : decode cX9_copies 21 = .ok (.return_, 1) := by decide +kernel
def cqP (mu : Mem) (a b : Nat) (j : Int) : Mem := fun x i => if x = b ∧ 0 ≤ i ∧ i < j then mu a i else mu x i
theorem cqP_0 (mu : Mem) (a b : Nat) : cqP mu a b 0 = mu := by funext x i; unfold cqP; rw [if_neg (by omega)]
theorem cqP_j (mu : Mem) (a b : Nat) (j : Int) : cqP mu a b j a j = mu a j := by unfold cqP; rw [if_neg (by omega)]
theorem cqP_s {mu : Mem} {a b : Nat} {j : Int} (hj : 0 ≤ j) : up (cqP mu a b j) b j (mu a j) = cqP mu a b (j + 1) := by
  funext x i
  unfold up cqP
  try dsimp only
  by_cases q : x = b ∧ i = j
  · rw [if_pos q, if_pos (by omega), q.2]
  · rw [if_neg q]
    by_cases q2 : x = b ∧ 0 ≤ i ∧ i < j
    · rw [if_pos q2, if_pos (by omega)]
    · rw [if_neg q2, if_neg (by omega)]
theorem m_copies (hG : GP G) {a b : Nat} (ha : hasS S a (.inl (0, 1639))) (hb : hasS S b (.inl (0, 1639))) : Ct G l yX9_copies wsX9_copies 0 0 0 [.ref b, .ref a] S n mu la (Dt none S n (cpF mu a b 1639) la) := by
  rw [show cpF mu a b 1639 = cqP mu a b 1639 from rfl]
  refine Ct.ofV (cc := cX9_copies) (nL := 3) (ret := none) [some (.ref b), some (.ref a), none] hG (by decide) rfl (Nat.le_of_ble_eq_true rfl) rfl ?_
  rintro X rfl rfl C hcl hsl E
  have loop : ∀ (d : Nat) (j : Int), j + d = 1639 → 0 ≤ j → V X 2 [some (.ref b), some (.ref a), some (.int (I32 j))] [] S n (cqP mu a b j) la 0 0 := by
    intro d
    induction d with
    | zero =>
      intro j h1 h2
      have hj : j = 1639 := by omega
      subst hj
      refine V_iload_n C dX9_copies_2 rfl ?_
      refine V_sipush C dX9_copies_3 (by decide +kernel) ?_
      refine V_icmp_ge C 21 dX9_copies_6 (by decide) (by omega) (by omega) (fun z6 => ?_) (fun z6 => ?_)
      · refine V_return C E dX9_copies_21 (by omega) (by omega) ?_
        exact Dt_rfl
      · exact absurd z6 (by first | omega | decide)
    | succ d ih =>
      intro j h1 h2
      have h9 := ih (j + 1) (by omega) (by omega)
      refine V_iload_n C dX9_copies_2 rfl ?_
      refine V_sipush C dX9_copies_3 (by decide +kernel) ?_
      refine V_icmp_ge C 21 dX9_copies_6 (by decide) (by omega) (by omega) (fun z6 => ?_) (fun z6 => ?_)
      · exact absurd z6 (by first | omega | decide)
      · refine V_aload_n C dX9_copies_9 rfl ?_
        refine V_iload_n C dX9_copies_10 rfl ?_
        refine V_aload_n C dX9_copies_11 rfl ?_
        refine V_iload_n C dX9_copies_12 rfl ?_
        refine V_ialdJ C dX9_copies_13 ha (by first | assumption | decide) (by omega) (cqP_j _ _ _ _) ?_
        refine V_iastJ C dX9_copies_14 hb (by first | assumption | decide) (by omega) (cqP_s h2) ?_
        refine V_iinc C dX9_copies_15 rfl rfl (by decide) ?_
        refine V_goto C 2 dX9_copies_18 (by decide) ?_
        exact h9
  refine V_iconst C dX9_copies_0 ?_
  refine V_istore_n C dX9_copies_1 rfl (by decide) ?_
  have h := loop 1639 0 (by omega) (by omega)
  rw [cqP_0] at h
  exact h
set_option maxRecDepth 20000 in
theorem ggX9_hold_X9_copies : GoodIn wsX9_hold wsX9_copies := goodIn_r _ [6] (by decide +kernel) (by decide +kernel)
set_option maxRecDepth 20000 in
theorem gX9_hold_X9_copies : GoodIn wsX9_hold (va_wsS RX9 62 yX9_copies wsX9_copies) := goodIn_app (goodIn_of _ (by decide +kernel)) ggX9_hold_X9_copies
theorem dX9_hold_0 : decode cX9_hold 0 = .ok (.aload_n 0, 1) := by decide +kernel
theorem dX9_hold_1 : decode cX9_hold 1 = .ok (.getfield 16, 3) := by decide +kernel
theorem dX9_hold_4 : decode cX9_hold 4 = .ok (.aload_n 0, 1) := by decide +kernel
theorem dX9_hold_5 : decode cX9_hold 5 = .ok (.getfield 7, 3) := by decide +kernel
theorem dX9_hold_8 : decode cX9_hold 8 = .ok (.invokestatic 62, 3) := by decide +kernel
theorem dX9_hold_11 : decode cX9_hold 11 = .ok (.return_, 1) := by decide +kernel
theorem hin_X9_hold_X9 : ∀ w ∈ wsX90, w ∈ wsX9_hold := by decide +kernel
theorem lk_X9_hold_16 : Cond.fieldLink RX9 16 RX9 "aside" "[I" ∈ wsX9_hold := by decide +kernel
theorem lk_X9_hold_7 : Cond.fieldLink RX9 7 RX9 "s" "[I" ∈ wsX9_hold := by decide +kernel
theorem m_hold (hG : GP G) (hM : MoS S r) : Ct G l yX9_hold wsX9_hold 1 0 0 [.ref r] S n mu la (Dt none S n (cpF mu (r + 1) (r + 3) 1639) la) := by
  have o9 := hM.1
  refine Ct.ofV (cc := cX9_hold) (nL := 1) (ret := none) [some (.ref r)] hG (by decide) rfl (Nat.le_of_ble_eq_true rfl) rfl ?_
  rintro X rfl rfl C hcl hsl E
  refine V_aload_n C dX9_hold_0 rfl ?_
  refine V_getR C 2 dX9_hold_1 o9 rfl hin_X9_hold_X9 (by decide) lk_X9_hold_16 rfl rfl ?_
  refine V_aload_n C dX9_hold_4 rfl ?_
  refine V_getR C 0 dX9_hold_5 o9 rfl hin_X9_hold_X9 (by decide) lk_X9_hold_7 rfl rfl ?_
  refine V_callSD (nA := 2) C dX9_hold_8 (m_copies C.gp hM.2.1 hM.2.2.2.1) gX9_hold_X9_copies rfl (by decide +kernel) rfl (by decide) (by decide) (Nat.le_of_ble_eq_true rfl) ⟨by omega, by omega⟩ rfl ?_
  refine V_return C E dX9_hold_11 (by omega) (by omega) ?_
  exact Dt_rfl
set_option maxRecDepth 20000 in
theorem ggX9_isPane_X9_in : GoodIn wsX9_isPane wsX9_in := goodIn_r _ [5] (by decide +kernel) (by decide +kernel)
set_option maxRecDepth 20000 in
theorem gX9_isPane_X9_in : GoodIn wsX9_isPane (va_wsS RX9 73 yX9_in wsX9_in) := goodIn_app (goodIn_of _ (by decide +kernel)) ggX9_isPane_X9_in
theorem dX9_isPane_0 : decode cX9_isPane 0 = .ok (.iload_n 1, 1) := by decide +kernel
theorem dX9_isPane_1 : decode cX9_isPane 1 = .ok (.iconst 0, 1) := by decide +kernel
theorem dX9_isPane_2 : decode cX9_isPane 2 = .ok (.aload_n 0, 1) := by decide +kernel
theorem dX9_isPane_3 : decode cX9_isPane 3 = .ok (.getfield 7, 3) := by decide +kernel
theorem dX9_isPane_6 : decode cX9_isPane 6 = .ok (.iconst 2, 1) := by decide +kernel
theorem dX9_isPane_7 : decode cX9_isPane 7 = .ok (.iaload, 1) := by decide +kernel
theorem dX9_isPane_8 : decode cX9_isPane 8 = .ok (.iconst 1, 1) := by decide +kernel
theorem dX9_isPane_9 : decode cX9_isPane 9 = .ok (.isub, 1) := by decide +kernel
theorem dX9_isPane_10 : decode cX9_isPane 10 = .ok (.invokestatic 73, 3) := by decide +kernel
theorem dX9_isPane_13 : decode cX9_isPane 13 = .ok (.ireturn, 1) := by decide +kernel
theorem hin_X9_isPane_X9 : ∀ w ∈ wsX90, w ∈ wsX9_isPane := by decide +kernel
theorem lk_X9_isPane_7 : Cond.fieldLink RX9 7 RX9 "s" "[I" ∈ wsX9_isPane := by decide +kernel
theorem m_isPane (hG : GP G) (hM : MoS S r) (hP : 0 ≤ mu (r + 1) 2 ∧ mu (r + 1) 2 ≤ 16) {x : Int} (hx : -2147483648 ≤ x ∧ x ≤ 2147483647) : Ct G l yX9_isPane wsX9_isPane 1 0 0 [.ref r, .int (I32 x)] S n mu la (Dt (some (.int (I32 (inI x 0 (mu (r + 1) 2 - 1))))) S n mu la) := by
  have o9 := hM.1
  have bi := inI_b x 0 (mu (r + 1) 2 - 1)
  refine Ct.ofV (cc := cX9_isPane) (nL := 2) (ret := (some .boolean)) [some (.ref r), some (.int (I32 x))] hG (by decide) rfl (Nat.le_of_ble_eq_true rfl) rfl ?_
  rintro X rfl rfl C hcl hsl E
  refine V_iload_n C dX9_isPane_0 rfl ?_
  refine V_iconst C dX9_isPane_1 ?_
  refine V_aload_n C dX9_isPane_2 rfl ?_
  refine V_getR C 0 dX9_isPane_3 o9 rfl hin_X9_isPane_X9 (by decide) lk_X9_isPane_7 rfl rfl ?_
  refine V_iconst C dX9_isPane_6 ?_
  refine V_iald C dX9_isPane_7 hM.2.1 (by first | assumption | decide) (by omega) ?_
  refine V_iconst C dX9_isPane_8 ?_
  refine V_isub C dX9_isPane_9 ?_
  refine V_callSD (nA := 3) C dX9_isPane_10 (m_in C.gp hx (by omega) (by omega)) gX9_isPane_X9_in rfl (by decide +kernel) rfl (by decide) (by decide) (Nat.le_of_ble_eq_true rfl) ⟨by omega, by omega⟩ rfl ?_
  refine V_zreturn C E (by unfold inI; split; exact Or.inr rfl; exact Or.inl rfl) dX9_isPane_13 (by omega) (by omega) ?_
  exact Dt_rfl
theorem dX9_of_0 : decode cX9_of 0 = .ok (.aload_n 0, 1) := by decide +kernel
theorem dX9_of_1 : decode cX9_of 1 = .ok (.getfield 7, 3) := by decide +kernel
theorem dX9_of_4 : decode cX9_of 4 = .ok (.bipush 35, 2) := by decide +kernel
theorem dX9_of_6 : decode cX9_of 6 = .ok (.bipush 9, 2) := by decide +kernel
theorem dX9_of_8 : decode cX9_of 8 = .ok (.iload_n 1, 1) := by decide +kernel
theorem dX9_of_9 : decode cX9_of 9 = .ok (.imul, 1) := by decide +kernel
theorem dX9_of_10 : decode cX9_of 10 = .ok (.iadd, 1) := by decide +kernel
theorem dX9_of_11 : decode cX9_of 11 = .ok (.iload_n 2, 1) := by decide +kernel
theorem dX9_of_12 : decode cX9_of 12 = .ok (.iadd, 1) := by decide +kernel
theorem dX9_of_13 : decode cX9_of 13 = .ok (.iaload, 1) := by decide +kernel
theorem dX9_of_14 : decode cX9_of 14 = .ok (.ireturn, 1) := by decide +kernel
theorem hin_X9_of_X9 : ∀ w ∈ wsX90, w ∈ wsX9_of := by decide +kernel
theorem lk_X9_of_7 : Cond.fieldLink RX9 7 RX9 "s" "[I" ∈ wsX9_of := by decide +kernel
theorem m_of (hG : GP G) (hM : MoS S r) {x wi : Int} (hx : 0 ≤ x ∧ x < 32) (w : Nat) (hw : w ≤ 8) (he : wi = (w : Int)) : Ct G l yX9_of wsX9_of 0 0 0 [.ref r, .int (I32 x), .int (I32 wi)] S n (ptT mu r T) la (Dt (some (.int (I32 (T w x)))) S n (ptT mu r T) la) := by
  have o9 := hM.1
  subst he
  refine Ct.ofV (cc := cX9_of) (nL := 3) (ret := (some .int)) [some (.ref r), some (.int (I32 x)), some (.int (I32 (w : Int)))] hG (by decide) rfl (Nat.le_of_ble_eq_true rfl) rfl ?_
  rintro X rfl rfl C hcl hsl E
  refine V_aload_n C dX9_of_0 rfl ?_
  refine V_getR C 0 dX9_of_1 o9 rfl hin_X9_of_X9 (by decide) lk_X9_of_7 rfl rfl ?_
  refine V_bipush C dX9_of_4 (by decide +kernel) ?_
  refine V_bipush C dX9_of_6 (by decide +kernel) ?_
  refine V_iload_n C dX9_of_8 rfl ?_
  refine V_imul C dX9_of_9 ?_
  refine V_iadd C dX9_of_10 ?_
  refine V_iload_n C dX9_of_11 rfl ?_
  refine V_iadd C dX9_of_12 ?_
  refine V_ialdJ C dX9_of_13 hM.2.1 (by first | assumption | decide) (by omega) (pt_n hx hw) ?_
  refine V_ireturn C E dX9_of_14 (by omega) (by omega) ?_
  exact Dt_rfl
theorem dX9_puts_0 : decode cX9_puts 0 = .ok (.aload_n 0, 1) := by decide +kernel
theorem dX9_puts_1 : decode cX9_puts 1 = .ok (.getfield 7, 3) := by decide +kernel
theorem dX9_puts_4 : decode cX9_puts 4 = .ok (.bipush 35, 2) := by decide +kernel
theorem dX9_puts_6 : decode cX9_puts 6 = .ok (.bipush 9, 2) := by decide +kernel
theorem dX9_puts_8 : decode cX9_puts 8 = .ok (.iload_n 1, 1) := by decide +kernel
theorem dX9_puts_9 : decode cX9_puts 9 = .ok (.imul, 1) := by decide +kernel
theorem dX9_puts_10 : decode cX9_puts 10 = .ok (.iadd, 1) := by decide +kernel
theorem dX9_puts_11 : decode cX9_puts 11 = .ok (.iload_n 2, 1) := by decide +kernel
theorem dX9_puts_12 : decode cX9_puts 12 = .ok (.iadd, 1) := by decide +kernel
theorem dX9_puts_13 : decode cX9_puts 13 = .ok (.iload_n 3, 1) := by decide +kernel
theorem dX9_puts_14 : decode cX9_puts 14 = .ok (.iastore, 1) := by decide +kernel
theorem dX9_puts_15 : decode cX9_puts 15 = .ok (.return_, 1) := by decide +kernel
theorem hin_X9_puts_X9 : ∀ w ∈ wsX90, w ∈ wsX9_puts := by decide +kernel
theorem lk_X9_puts_7 : Cond.fieldLink RX9 7 RX9 "s" "[I" ∈ wsX9_puts := by decide +kernel
theorem m_puts (hG : GP G) (hM : MoS S r) {x wi v : Int} (hx : 0 ≤ x ∧ x < 32) (w : Nat) (hw : w ≤ 8) (he : wi = (w : Int)) : Ct G l yX9_puts wsX9_puts 0 0 0 [.ref r, .int (I32 x), .int (I32 wi), .int (I32 v)] S n (ptT mu r T) la (Dt none S n (ptT mu r (up T w x v)) la) := by
  have o9 := hM.1
  subst he
  refine Ct.ofV (cc := cX9_puts) (nL := 4) (ret := none) [some (.ref r), some (.int (I32 x)), some (.int (I32 (w : Int))), some (.int (I32 v))] hG (by decide) rfl (Nat.le_of_ble_eq_true rfl) rfl ?_
  rintro X rfl rfl C hcl hsl E
  refine V_aload_n C dX9_puts_0 rfl ?_
  refine V_getR C 0 dX9_puts_1 o9 rfl hin_X9_puts_X9 (by decide) lk_X9_puts_7 rfl rfl ?_
  refine V_bipush C dX9_puts_4 (by decide +kernel) ?_
  refine V_bipush C dX9_puts_6 (by decide +kernel) ?_
  refine V_iload_n C dX9_puts_8 rfl ?_
  refine V_imul C dX9_puts_9 ?_
  refine V_iadd C dX9_puts_10 ?_
  refine V_iload_n C dX9_puts_11 rfl ?_
  refine V_iadd C dX9_puts_12 ?_
  refine V_iload_n C dX9_puts_13 rfl ?_
  refine V_iastJ C dX9_puts_14 hM.2.1 (by first | assumption | decide) (by omega) (ptu_n hx hw) ?_
  refine V_return C E dX9_puts_15 (by omega) (by omega) ?_
  exact Dt_rfl
theorem dX9_groupOf_0 : decode cX9_groupOf 0 = .ok (.aload_n 0, 1) := by decide +kernel
theorem dX9_groupOf_1 : decode cX9_groupOf 1 = .ok (.getfield 7, 3) := by decide +kernel
theorem dX9_groupOf_4 : decode cX9_groupOf 4 = .ok (.sipush 323, 3) := by decide +kernel
theorem dX9_groupOf_7 : decode cX9_groupOf 7 = .ok (.iconst 2, 1) := by decide +kernel
theorem dX9_groupOf_8 : decode cX9_groupOf 8 = .ok (.iload_n 1, 1) := by decide +kernel
theorem dX9_groupOf_9 : decode cX9_groupOf 9 = .ok (.imul, 1) := by decide +kernel
theorem dX9_groupOf_10 : decode cX9_groupOf 10 = .ok (.iadd, 1) := by decide +kernel
theorem dX9_groupOf_11 : decode cX9_groupOf 11 = .ok (.iaload, 1) := by decide +kernel
theorem dX9_groupOf_12 : decode cX9_groupOf 12 = .ok (.ireturn, 1) := by decide +kernel
theorem hin_X9_groupOf_X9 : ∀ w ∈ wsX90, w ∈ wsX9_groupOf := by decide +kernel
theorem lk_X9_groupOf_7 : Cond.fieldLink RX9 7 RX9 "s" "[I" ∈ wsX9_groupOf := by decide +kernel
theorem m_groupOf (hG : GP G) (hM : MoS S r) {x : Int} (hx : 0 ≤ x ∧ x < 16) : Ct G l yX9_groupOf wsX9_groupOf 0 0 0 [.ref r, .int (I32 x)] S n (ptT mu r T) la (Dt (some (.int (I32 (T 9 x)))) S n (ptT mu r T) la) := by
  have o9 := hM.1
  refine Ct.ofV (cc := cX9_groupOf) (nL := 2) (ret := (some .int)) [some (.ref r), some (.int (I32 x))] hG (by decide) rfl (Nat.le_of_ble_eq_true rfl) rfl ?_
  rintro X rfl rfl C hcl hsl E
  refine V_aload_n C dX9_groupOf_0 rfl ?_
  refine V_getR C 0 dX9_groupOf_1 o9 rfl hin_X9_groupOf_X9 (by decide) lk_X9_groupOf_7 rfl rfl ?_
  refine V_sipush C dX9_groupOf_4 (by decide +kernel) ?_
  refine V_iconst C dX9_groupOf_7 ?_
  refine V_iload_n C dX9_groupOf_8 rfl ?_
  refine V_imul C dX9_groupOf_9 ?_
  refine V_iadd C dX9_groupOf_10 ?_
  refine V_ialdJ C dX9_groupOf_11 hM.2.1 (by first | assumption | decide) (by omega) (pt_g hx) ?_
  refine V_ireturn C E dX9_groupOf_12 (by omega) (by omega) ?_
  exact Dt_rfl
theorem dX9_placeOf_0 : decode cX9_placeOf 0 = .ok (.aload_n 0, 1) := by decide +kernel
theorem dX9_placeOf_1 : decode cX9_placeOf 1 = .ok (.getfield 7, 3) := by decide +kernel
theorem dX9_placeOf_4 : decode cX9_placeOf 4 = .ok (.sipush 323, 3) := by decide +kernel
theorem dX9_placeOf_7 : decode cX9_placeOf 7 = .ok (.iconst 2, 1) := by decide +kernel
theorem dX9_placeOf_8 : decode cX9_placeOf 8 = .ok (.iload_n 1, 1) := by decide +kernel
theorem dX9_placeOf_9 : decode cX9_placeOf 9 = .ok (.imul, 1) := by decide +kernel
theorem dX9_placeOf_10 : decode cX9_placeOf 10 = .ok (.iadd, 1) := by decide +kernel
theorem dX9_placeOf_11 : decode cX9_placeOf 11 = .ok (.iconst 1, 1) := by decide +kernel
theorem dX9_placeOf_12 : decode cX9_placeOf 12 = .ok (.iadd, 1) := by decide +kernel
theorem dX9_placeOf_13 : decode cX9_placeOf 13 = .ok (.iaload, 1) := by decide +kernel
theorem dX9_placeOf_14 : decode cX9_placeOf 14 = .ok (.ireturn, 1) := by decide +kernel
theorem hin_X9_placeOf_X9 : ∀ w ∈ wsX90, w ∈ wsX9_placeOf := by decide +kernel
theorem lk_X9_placeOf_7 : Cond.fieldLink RX9 7 RX9 "s" "[I" ∈ wsX9_placeOf := by decide +kernel
theorem m_placeOf (hG : GP G) (hM : MoS S r) {x : Int} (hx : 0 ≤ x ∧ x < 16) : Ct G l yX9_placeOf wsX9_placeOf 0 0 0 [.ref r, .int (I32 x)] S n (ptT mu r T) la (Dt (some (.int (I32 (T 10 x)))) S n (ptT mu r T) la) := by
  have o9 := hM.1
  refine Ct.ofV (cc := cX9_placeOf) (nL := 2) (ret := (some .int)) [some (.ref r), some (.int (I32 x))] hG (by decide) rfl (Nat.le_of_ble_eq_true rfl) rfl ?_
  rintro X rfl rfl C hcl hsl E
  refine V_aload_n C dX9_placeOf_0 rfl ?_
  refine V_getR C 0 dX9_placeOf_1 o9 rfl hin_X9_placeOf_X9 (by decide) lk_X9_placeOf_7 rfl rfl ?_
  refine V_sipush C dX9_placeOf_4 (by decide +kernel) ?_
  refine V_iconst C dX9_placeOf_7 ?_
  refine V_iload_n C dX9_placeOf_8 rfl ?_
  refine V_imul C dX9_placeOf_9 ?_
  refine V_iadd C dX9_placeOf_10 ?_
  refine V_iconst C dX9_placeOf_11 ?_
  refine V_iadd C dX9_placeOf_12 ?_
  refine V_ialdJ C dX9_placeOf_13 hM.2.1 (by first | assumption | decide) (by omega) (pt_p hx) ?_
  refine V_ireturn C E dX9_placeOf_14 (by omega) (by omega) ?_
  exact Dt_rfl
set_option maxRecDepth 20000 in
theorem ggX9_isSplit_X9_of : GoodIn wsX9_isSplit wsX9_of := goodIn_r _ [5, 6, 7, 8, 9, 10, 11, 12, 13, 14, 15, 16, 17, 18, 19, 20, 21, 22, 23, 24, 25, 26, 27, 28, 29, 30] (by decide +kernel) (by decide +kernel)
set_option maxRecDepth 20000 in
theorem gX9_isSplit_X9_of : GoodIn wsX9_isSplit (wsV RX9 77 RX9 yX9_of wsX9_of) := goodIn_app (goodIn_of _ (by decide +kernel)) ggX9_isSplit_X9_of
theorem dX9_isSplit_0 : decode cX9_isSplit 0 = .ok (.aload_n 0, 1) := by decide +kernel
theorem dX9_isSplit_1 : decode cX9_isSplit 1 = .ok (.iload_n 1, 1) := by decide +kernel
theorem dX9_isSplit_2 : decode cX9_isSplit 2 = .ok (.iconst 0, 1) := by decide +kernel
theorem dX9_isSplit_3 : decode cX9_isSplit 3 = .ok (.invokevirtual 77, 3) := by decide +kernel
theorem dX9_isSplit_6 : decode cX9_isSplit 6 = .ok (.iconst 2, 1) := by decide +kernel
theorem dX9_isSplit_7 : decode cX9_isSplit 7 = .ok (.if_icmp .eq 13, 3) := by decide +kernel
theorem dX9_isSplit_10 : decode cX9_isSplit 10 = .ok (.aload_n 0, 1) := by decide +kernel
theorem dX9_isSplit_11 : decode cX9_isSplit 11 = .ok (.iload_n 1, 1) := by decide +kernel
theorem dX9_isSplit_12 : decode cX9_isSplit 12 = .ok (.iconst 0, 1) := by decide +kernel
theorem dX9_isSplit_13 : decode cX9_isSplit 13 = .ok (.invokevirtual 77, 3) := by decide +kernel
theorem dX9_isSplit_16 : decode cX9_isSplit 16 = .ok (.iconst 3, 1) := by decide +kernel
theorem dX9_isSplit_17 : decode cX9_isSplit 17 = .ok (.if_icmp .ne 7, 3) := by decide +kernel
theorem dX9_isSplit_20 : decode cX9_isSplit 20 = .ok (.iconst 1, 1) := by decide +kernel
theorem dX9_isSplit_21 : decode cX9_isSplit 21 = .ok (.goto 4, 3) := by decide +kernel
theorem dX9_isSplit_24 : decode cX9_isSplit 24 = .ok (.iconst 0, 1) := by decide +kernel
theorem dX9_isSplit_25 : decode cX9_isSplit 25 = .ok (.ireturn, 1) := by decide +kernel
theorem m_isSplit (hG : GP G) (hM : MoS S r) {N : Int} (hB : TB N T) (hN : N ≤ 1073741824) {x : Int} (hx : 0 ≤ x ∧ x < 32) : Ct G l yX9_isSplit wsX9_isSplit 1 0 0 [.ref r, .int (I32 x)] S n (ptT mu r T) la (Dt (some (.int (I32 (spT T x)))) S n (ptT mu r T) la) := by
  have o9 := hM.1
  have b0 := hB.n 0 (by decide) hx
  refine Ct.ofV (cc := cX9_isSplit) (nL := 2) (ret := (some .boolean)) [some (.ref r), some (.int (I32 x))] hG (by decide) rfl (Nat.le_of_ble_eq_true rfl) rfl ?_
  rintro X rfl rfl C hcl hsl E
  refine V_aload_n C dX9_isSplit_0 rfl ?_
  refine V_iload_n C dX9_isSplit_1 rfl ?_
  refine V_iconst C dX9_isSplit_2 ?_
  refine V_callVD (nA := 2) C dX9_isSplit_3 (m_of C.gp hM hx 0 (by decide) rfl) gX9_isSplit_X9_of rfl o9 rfl (by decide +kernel) rfl (by decide) (by decide) (Nat.le_of_ble_eq_true rfl) ⟨by omega, by omega⟩ rfl ?_
  refine V_iconst C dX9_isSplit_6 ?_
  refine V_icmp_eq C 20 dX9_isSplit_7 (by decide) (by omega) (by omega) (fun z7 => ?_) (fun z7 => ?_)
  · refine V_iconst C dX9_isSplit_20 ?_
    refine V_goto C 25 dX9_isSplit_21 (by decide) ?_
    refine V_zreturn C E (by first | exact Or.inl rfl | exact Or.inr rfl) dX9_isSplit_25 (by omega) (by omega) ?_
    exact Dt_int (by unfold spT; (repeat' split) <;> first | rfl | omega)
  · refine V_aload_n C dX9_isSplit_10 rfl ?_
    refine V_iload_n C dX9_isSplit_11 rfl ?_
    refine V_iconst C dX9_isSplit_12 ?_
    refine V_callVD (nA := 2) C dX9_isSplit_13 (m_of C.gp hM hx 0 (by decide) rfl) gX9_isSplit_X9_of rfl o9 rfl (by decide +kernel) rfl (by decide) (by decide) (Nat.le_of_ble_eq_true rfl) ⟨by omega, by omega⟩ rfl ?_
    refine V_iconst C dX9_isSplit_16 ?_
    refine V_icmp_ne C 24 dX9_isSplit_17 (by decide) (by omega) (by omega) (fun z17 => ?_) (fun z17 => ?_)
    · refine V_iconst C dX9_isSplit_24 ?_
      refine V_zreturn C E (by first | exact Or.inl rfl | exact Or.inr rfl) dX9_isSplit_25 (by omega) (by omega) ?_
      exact Dt_int (by unfold spT; (repeat' split) <;> first | rfl | omega)
    · refine V_iconst C dX9_isSplit_20 ?_
      refine V_goto C 25 dX9_isSplit_21 (by decide) ?_
      refine V_zreturn C E (by first | exact Or.inl rfl | exact Or.inr rfl) dX9_isSplit_25 (by omega) (by omega) ?_
      exact Dt_int (by unfold spT; (repeat' split) <;> first | rfl | omega)
set_option maxRecDepth 20000 in
theorem ggX9_root_X9_of : GoodIn wsX9_root wsX9_of := goodIn_r _ [5, 6, 10, 11, 12, 13, 14, 15, 16, 17, 18, 19, 20, 21, 22, 23, 24, 25, 26, 27, 28, 29, 30, 31, 32, 33] (by decide +kernel) (by decide +kernel)
set_option maxRecDepth 20000 in
theorem gX9_root_X9_of : GoodIn wsX9_root (wsV RX9 77 RX9 yX9_of wsX9_of) := goodIn_app (goodIn_of _ (by decide +kernel)) ggX9_root_X9_of
set_option maxRecDepth 20000 in
theorem ggX9_root_X9_in : GoodIn wsX9_root wsX9_in := goodIn_r _ [9] (by decide +kernel) (by decide +kernel)
set_option maxRecDepth 20000 in
theorem gX9_root_X9_in : GoodIn wsX9_root (va_wsS RX9 73 yX9_in wsX9_in) := goodIn_app (goodIn_of _ (by decide +kernel)) ggX9_root_X9_in
theorem dX9_root_0 : decode cX9_root 0 = .ok (.iconst 0, 1) := by decide +kernel
theorem dX9_root_1 : decode cX9_root 1 = .ok (.istore_n 1, 1) := by decide +kernel
theorem dX9_root_2 : decode cX9_root 2 = .ok (.iload_n 1, 1) := by decide +kernel
theorem dX9_root_3 : decode cX9_root 3 = .ok (.bipush 32, 2) := by decide +kernel
theorem dX9_root_5 : decode cX9_root 5 = .ok (.if_icmp .ge 35, 3) := by decide +kernel
theorem dX9_root_8 : decode cX9_root 8 = .ok (.aload_n 0, 1) := by decide +kernel
theorem dX9_root_9 : decode cX9_root 9 = .ok (.iload_n 1, 1) := by decide +kernel
theorem dX9_root_10 : decode cX9_root 10 = .ok (.iconst 0, 1) := by decide +kernel
theorem dX9_root_11 : decode cX9_root 11 = .ok (.invokevirtual 77, 3) := by decide +kernel
theorem dX9_root_14 : decode cX9_root 14 = .ok (.iconst 1, 1) := by decide +kernel
theorem dX9_root_15 : decode cX9_root 15 = .ok (.iconst 3, 1) := by decide +kernel
theorem dX9_root_16 : decode cX9_root 16 = .ok (.invokestatic 73, 3) := by decide +kernel
theorem dX9_root_19 : decode cX9_root 19 = .ok (.ifCond .eq 15, 3) := by decide +kernel
theorem dX9_root_22 : decode cX9_root 22 = .ok (.aload_n 0, 1) := by decide +kernel
theorem dX9_root_23 : decode cX9_root 23 = .ok (.iload_n 1, 1) := by decide +kernel
theorem dX9_root_24 : decode cX9_root 24 = .ok (.iconst 1, 1) := by decide +kernel
theorem dX9_root_25 : decode cX9_root 25 = .ok (.invokevirtual 77, 3) := by decide +kernel
theorem dX9_root_28 : decode cX9_root 28 = .ok (.iconst (-1), 1) := by decide +kernel
theorem dX9_root_29 : decode cX9_root 29 = .ok (.if_icmp .ne 5, 3) := by decide +kernel
theorem dX9_root_32 : decode cX9_root 32 = .ok (.iload_n 1, 1) := by decide +kernel
theorem dX9_root_33 : decode cX9_root 33 = .ok (.ireturn, 1) := by decide +kernel
theorem dX9_root_34 : decode cX9_root 34 = .ok (.iinc 1 1, 3) := by decide +kernel
theorem dX9_root_37 : decode cX9_root 37 = .ok (.goto (-35), 3) := by decide +kernel
theorem dX9_root_40 : decode cX9_root 40 = .ok (.iconst (-1), 1) := by decide +kernel
theorem dX9_root_41 : decode cX9_root 41 = .ok (.ireturn, 1) := by decide +kernel
theorem m_root (hG : GP G) (hM : MoS S r) {N : Int} (hB : TB N T) (hN : N ≤ 1073741824) : Ct G l yX9_root wsX9_root 1 0 0 [.ref r] S n (ptT mu r T) la (Dt (some (.int (I32 (rtT T)))) S n (ptT mu r T) la) := by
  have o9 := hM.1
  unfold rtT
  generalize eR : fmG (isT T (-1)) 32 32 = R
  refine Ct.ofV (cc := cX9_root) (nL := 2) (ret := (some .int)) [some (.ref r), none] hG (by decide) rfl (Nat.le_of_ble_eq_true rfl) rfl ?_
  rintro X rfl rfl C hcl hsl E
  have loop : ∀ (d : Nat) (o : Int), o + d = 32 → 0 ≤ o → fmG (isT T (-1)) 32 d = R → V X 2 [some (.ref r), some (.int (I32 o))] [] S n (ptT mu r T) la 0 0 := by
    intro d
    induction d with
    | zero =>
      intro o h1 h2 h3
      have h3 : R = -1 := h3.symm
      subst h3
      refine V_iload_n C dX9_root_2 rfl ?_
      refine V_bipush C dX9_root_3 (by decide +kernel) ?_
      refine V_icmp_ge C 40 dX9_root_5 (by decide) (by omega) (by omega) (fun z5 => ?_) (fun z5 => ?_)
      · refine V_iconst C dX9_root_40 ?_
        refine V_ireturn C E dX9_root_41 (by omega) (by omega) ?_
        exact Dt_rfl
      · exact absurd z5 (by first | omega | decide)
    | succ d ih =>
      intro o h1 h2 h3
      have b0 := hB.n 0 (by decide) (i := o) (by omega)
      have b1 := hB.n 1 (by decide) (i := o) (by omega)
      have bi := inI_b (T 0 o) 1 3
      rw [fmG, show (32 : Int) - ((d : Int) + 1) = o by omega] at h3
      refine V_iload_n C dX9_root_2 rfl ?_
      refine V_bipush C dX9_root_3 (by decide +kernel) ?_
      refine V_icmp_ge C 40 dX9_root_5 (by decide) (by omega) (by omega) (fun z5 => ?_) (fun z5 => ?_)
      · exact absurd z5 (by first | omega | decide)
      · refine V_aload_n C dX9_root_8 rfl ?_
        refine V_iload_n C dX9_root_9 rfl ?_
        refine V_iconst C dX9_root_10 ?_
        refine V_callVD (nA := 2) C dX9_root_11 (m_of C.gp hM (by omega) 0 (by decide) rfl) gX9_root_X9_of rfl o9 rfl (by decide +kernel) rfl (by decide) (by decide) (Nat.le_of_ble_eq_true rfl) ⟨by omega, by omega⟩ rfl ?_
        refine V_iconst C dX9_root_14 ?_
        refine V_iconst C dX9_root_15 ?_
        refine V_callSD (nA := 3) C dX9_root_16 (m_in C.gp (by omega) (by omega) (by omega)) gX9_root_X9_in rfl (by decide +kernel) rfl (by decide) (by decide) (Nat.le_of_ble_eq_true rfl) ⟨by omega, by omega⟩ rfl ?_
        refine V_if_eq C 34 dX9_root_19 (by decide) (by omega) (fun z19 => ?_) (fun z19 => ?_)
        · refine V_iinc C dX9_root_34 rfl rfl (by decide) ?_
          refine V_goto C 2 dX9_root_37 (by decide) ?_
          rw [if_neg (by unfold isT; unfold inI at *; (repeat' split) <;> omega)] at h3
          exact ih _ (by omega) (by omega) h3
        · refine V_aload_n C dX9_root_22 rfl ?_
          refine V_iload_n C dX9_root_23 rfl ?_
          refine V_iconst C dX9_root_24 ?_
          refine V_callVD (nA := 2) C dX9_root_25 (m_of C.gp hM (by omega) 1 (by decide) rfl) gX9_root_X9_of rfl o9 rfl (by decide +kernel) rfl (by decide) (by decide) (Nat.le_of_ble_eq_true rfl) ⟨by omega, by omega⟩ rfl ?_
          refine V_iconst C dX9_root_28 ?_
          refine V_icmp_ne C 34 dX9_root_29 (by decide) (by omega) (by omega) (fun z29 => ?_) (fun z29 => ?_)
          · refine V_iinc C dX9_root_34 rfl rfl (by decide) ?_
            refine V_goto C 2 dX9_root_37 (by decide) ?_
            rw [if_neg (by unfold isT; unfold inI at *; (repeat' split) <;> omega)] at h3
            exact ih _ (by omega) (by omega) h3
          · refine V_iload_n C dX9_root_32 rfl ?_
            refine V_ireturn C E dX9_root_33 (by omega) (by omega) ?_
            rw [if_pos (by unfold isT; unfold inI at *; (repeat' split) <;> omega)] at h3
            subst h3
            exact Dt_rfl
  refine V_iconst C dX9_root_0 ?_
  refine V_istore_n C dX9_root_1 rfl (by decide) ?_
  exact loop 32 0 (by omega) (by omega) eR
set_option maxRecDepth 20000 in
theorem ggX9_children_X9_of : GoodIn wsX9_children wsX9_of := goodIn_r _ [5, 6, 10, 11, 12, 13, 14, 15, 16, 17, 18, 19, 20, 21, 22, 23, 24, 25, 26, 27, 28, 29, 30, 31, 32, 33] (by decide +kernel) (by decide +kernel)
set_option maxRecDepth 20000 in
theorem gX9_children_X9_of : GoodIn wsX9_children (wsV RX9 77 RX9 yX9_of wsX9_of) := goodIn_app (goodIn_of _ (by decide +kernel)) ggX9_children_X9_of
set_option maxRecDepth 20000 in
theorem ggX9_children_X9_in : GoodIn wsX9_children wsX9_in := goodIn_r _ [9] (by decide +kernel) (by decide +kernel)
set_option maxRecDepth 20000 in
theorem gX9_children_X9_in : GoodIn wsX9_children (va_wsS RX9 73 yX9_in wsX9_in) := goodIn_app (goodIn_of _ (by decide +kernel)) ggX9_children_X9_in
theorem dX9_children_0 : decode cX9_children 0 = .ok (.iconst 0, 1) := by decide +kernel
theorem dX9_children_1 : decode cX9_children 1 = .ok (.istore_n 2, 1) := by decide +kernel
theorem dX9_children_2 : decode cX9_children 2 = .ok (.iconst 0, 1) := by decide +kernel
theorem dX9_children_3 : decode cX9_children 3 = .ok (.istore_n 3, 1) := by decide +kernel
theorem dX9_children_4 : decode cX9_children 4 = .ok (.iload_n 3, 1) := by decide +kernel
theorem dX9_children_5 : decode cX9_children 5 = .ok (.bipush 32, 2) := by decide +kernel
theorem dX9_children_7 : decode cX9_children 7 = .ok (.if_icmp .ge 41, 3) := by decide +kernel
theorem dX9_children_10 : decode cX9_children 10 = .ok (.iload_n 2, 1) := by decide +kernel
theorem dX9_children_11 : decode cX9_children 11 = .ok (.aload_n 0, 1) := by decide +kernel
theorem dX9_children_12 : decode cX9_children 12 = .ok (.iload_n 3, 1) := by decide +kernel
theorem dX9_children_13 : decode cX9_children 13 = .ok (.iconst 0, 1) := by decide +kernel
theorem dX9_children_14 : decode cX9_children 14 = .ok (.invokevirtual 77, 3) := by decide +kernel
theorem dX9_children_17 : decode cX9_children 17 = .ok (.iconst 1, 1) := by decide +kernel
theorem dX9_children_18 : decode cX9_children 18 = .ok (.iconst 3, 1) := by decide +kernel
theorem dX9_children_19 : decode cX9_children 19 = .ok (.invokestatic 73, 3) := by decide +kernel
theorem dX9_children_22 : decode cX9_children 22 = .ok (.ifCond .eq 17, 3) := by decide +kernel
theorem dX9_children_25 : decode cX9_children 25 = .ok (.aload_n 0, 1) := by decide +kernel
theorem dX9_children_26 : decode cX9_children 26 = .ok (.iload_n 3, 1) := by decide +kernel
theorem dX9_children_27 : decode cX9_children 27 = .ok (.iconst 1, 1) := by decide +kernel
theorem dX9_children_28 : decode cX9_children 28 = .ok (.invokevirtual 77, 3) := by decide +kernel
theorem dX9_children_31 : decode cX9_children 31 = .ok (.iload_n 1, 1) := by decide +kernel
theorem dX9_children_32 : decode cX9_children 32 = .ok (.if_icmp .ne 7, 3) := by decide +kernel
theorem dX9_children_35 : decode cX9_children 35 = .ok (.iconst 1, 1) := by decide +kernel
theorem dX9_children_36 : decode cX9_children 36 = .ok (.goto 4, 3) := by decide +kernel
theorem dX9_children_39 : decode cX9_children 39 = .ok (.iconst 0, 1) := by decide +kernel
theorem dX9_children_40 : decode cX9_children 40 = .ok (.iadd, 1) := by decide +kernel
theorem dX9_children_41 : decode cX9_children 41 = .ok (.istore_n 2, 1) := by decide +kernel
theorem dX9_children_42 : decode cX9_children 42 = .ok (.iinc 3 1, 3) := by decide +kernel
theorem dX9_children_45 : decode cX9_children 45 = .ok (.goto (-41), 3) := by decide +kernel
theorem dX9_children_48 : decode cX9_children 48 = .ok (.iload_n 2, 1) := by decide +kernel
theorem dX9_children_49 : decode cX9_children 49 = .ok (.ireturn, 1) := by decide +kernel
theorem m_children (hG : GP G) (hM : MoS S r) {N : Int} (hB : TB N T) (hN : N ≤ 1073741824) {x : Int} (hx : -2147483648 ≤ x ∧ x ≤ 2147483647) : Ct G l yX9_children wsX9_children 1 0 0 [.ref r, .int (I32 x)] S n (ptT mu r T) la (Dt (some (.int (I32 (kdT T x)))) S n (ptT mu r T) la) := by
  have o9 := hM.1
  refine Ct.ofV (cc := cX9_children) (nL := 4) (ret := (some .int)) [some (.ref r), some (.int (I32 x)), none, none] hG (by decide) rfl (Nat.le_of_ble_eq_true rfl) rfl ?_
  rintro X rfl rfl C hcl hsl E
  have loop : ∀ (d j : Nat), j + d = 32 → V X 4 [some (.ref r), some (.int (I32 x)), some (.int (I32 (smG (isT T x) j))), some (.int (I32 (j : Int)))] [] S n (ptT mu r T) la 0 0 := by
    intro d
    induction d with
    | zero =>
      intro j h1
      have hj : j = 32 := by omega
      subst hj
      refine V_iload_n C dX9_children_4 rfl ?_
      refine V_bipush C dX9_children_5 (by decide +kernel) ?_
      refine V_icmp_ge C 48 dX9_children_7 (by decide) (by omega) (by omega) (fun z7 => ?_) (fun z7 => ?_)
      · refine V_iload_n C dX9_children_48 rfl ?_
        refine V_ireturn C E dX9_children_49 (by omega) (by omega) ?_
        exact Dt_rfl
      · exact absurd z7 (by first | omega | decide)
    | succ d ih =>
      intro j h1
      have b0 := hB.n 0 (by decide) (i := (j : Int)) (by omega)
      have b1 := hB.n 1 (by decide) (i := (j : Int)) (by omega)
      have bi := inI_b (T 0 j) 1 3
      have h9 := ih (j + 1) (by omega)
      rw [smG] at h9
      refine V_iload_n C dX9_children_4 rfl ?_
      refine V_bipush C dX9_children_5 (by decide +kernel) ?_
      refine V_icmp_ge C 48 dX9_children_7 (by decide) (by omega) (by omega) (fun z7 => ?_) (fun z7 => ?_)
      · exact absurd z7 (by first | omega | decide)
      · refine V_iload_n C dX9_children_10 rfl ?_
        refine V_aload_n C dX9_children_11 rfl ?_
        refine V_iload_n C dX9_children_12 rfl ?_
        refine V_iconst C dX9_children_13 ?_
        refine V_callVD (nA := 2) C dX9_children_14 (m_of C.gp hM (by omega) 0 (by decide) rfl) gX9_children_X9_of rfl o9 rfl (by decide +kernel) rfl (by decide) (by decide) (Nat.le_of_ble_eq_true rfl) ⟨by omega, by omega⟩ rfl ?_
        refine V_iconst C dX9_children_17 ?_
        refine V_iconst C dX9_children_18 ?_
        refine V_callSD (nA := 3) C dX9_children_19 (m_in C.gp (by omega) (by omega) (by omega)) gX9_children_X9_in rfl (by decide +kernel) rfl (by decide) (by decide) (Nat.le_of_ble_eq_true rfl) ⟨by omega, by omega⟩ rfl ?_
        refine V_if_eq C 39 dX9_children_22 (by decide) (by omega) (fun z22 => ?_) (fun z22 => ?_)
        · rw [show isT T x j = 0 by unfold isT; unfold inI at *; (repeat' split) <;> omega] at h9
          refine V_iconst C dX9_children_39 ?_
          refine V_iadd C dX9_children_40 ?_
          refine V_istore_n C dX9_children_41 rfl (by decide) ?_
          refine V_iinc C dX9_children_42 rfl rfl (by decide) ?_
          refine V_goto C 4 dX9_children_45 (by decide) ?_
          exact h9
        · refine V_aload_n C dX9_children_25 rfl ?_
          refine V_iload_n C dX9_children_26 rfl ?_
          refine V_iconst C dX9_children_27 ?_
          refine V_callVD (nA := 2) C dX9_children_28 (m_of C.gp hM (by omega) 1 (by decide) rfl) gX9_children_X9_of rfl o9 rfl (by decide +kernel) rfl (by decide) (by decide) (Nat.le_of_ble_eq_true rfl) ⟨by omega, by omega⟩ rfl ?_
          refine V_iload_n C dX9_children_31 rfl ?_
          refine V_icmp_ne C 39 dX9_children_32 (by decide) (by omega) (by omega) (fun z32 => ?_) (fun z32 => ?_)
          · rw [show isT T x j = 0 by unfold isT; unfold inI at *; (repeat' split) <;> omega] at h9
            refine V_iconst C dX9_children_39 ?_
            refine V_iadd C dX9_children_40 ?_
            refine V_istore_n C dX9_children_41 rfl (by decide) ?_
            refine V_iinc C dX9_children_42 rfl rfl (by decide) ?_
            refine V_goto C 4 dX9_children_45 (by decide) ?_
            exact h9
          · rw [show isT T x j = 1 by unfold isT; unfold inI at *; (repeat' split) <;> omega] at h9
            refine V_iconst C dX9_children_35 ?_
            refine V_goto C 40 dX9_children_36 (by decide) ?_
            refine V_iadd C dX9_children_40 ?_
            refine V_istore_n C dX9_children_41 rfl (by decide) ?_
            refine V_iinc C dX9_children_42 rfl rfl (by decide) ?_
            refine V_goto C 4 dX9_children_45 (by decide) ?_
            exact h9
  refine V_iconst C dX9_children_0 ?_
  refine V_istore_n C dX9_children_1 rfl (by decide) ?_
  refine V_iconst C dX9_children_2 ?_
  refine V_istore_n C dX9_children_3 rfl (by decide) ?_
  exact loop 32 0 (by omega)
set_option maxRecDepth 20000 in
theorem ggX9_child_X9_of : GoodIn wsX9_child wsX9_of := goodIn_r _ [5, 6, 10, 11, 12, 13, 14, 15, 16, 17, 18, 19, 20, 21, 22, 23, 24, 25, 26, 27, 28, 29, 30, 31, 32, 33] (by decide +kernel) (by decide +kernel)
set_option maxRecDepth 20000 in
theorem gX9_child_X9_of : GoodIn wsX9_child (wsV RX9 77 RX9 yX9_of wsX9_of) := goodIn_app (goodIn_of _ (by decide +kernel)) ggX9_child_X9_of
set_option maxRecDepth 20000 in
theorem ggX9_child_X9_in : GoodIn wsX9_child wsX9_in := goodIn_r _ [9] (by decide +kernel) (by decide +kernel)
set_option maxRecDepth 20000 in
theorem gX9_child_X9_in : GoodIn wsX9_child (va_wsS RX9 73 yX9_in wsX9_in) := goodIn_app (goodIn_of _ (by decide +kernel)) ggX9_child_X9_in
theorem dX9_child_0 : decode cX9_child 0 = .ok (.iconst (-1), 1) := by decide +kernel
theorem dX9_child_1 : decode cX9_child 1 = .ok (.istore_n 3, 1) := by decide +kernel
theorem dX9_child_2 : decode cX9_child 2 = .ok (.iconst 0, 1) := by decide +kernel
theorem dX9_child_3 : decode cX9_child 3 = .ok (.istore 4, 2) := by decide +kernel
theorem dX9_child_5 : decode cX9_child 5 = .ok (.iload 4, 2) := by decide +kernel
theorem dX9_child_7 : decode cX9_child 7 = .ok (.bipush 32, 2) := by decide +kernel
theorem dX9_child_9 : decode cX9_child 9 = .ok (.if_icmp .ge 53, 3) := by decide +kernel
theorem dX9_child_12 : decode cX9_child 12 = .ok (.aload_n 0, 1) := by decide +kernel
theorem dX9_child_13 : decode cX9_child 13 = .ok (.iload 4, 2) := by decide +kernel
theorem dX9_child_15 : decode cX9_child 15 = .ok (.iconst 0, 1) := by decide +kernel
theorem dX9_child_16 : decode cX9_child 16 = .ok (.invokevirtual 77, 3) := by decide +kernel
theorem dX9_child_19 : decode cX9_child 19 = .ok (.iconst 1, 1) := by decide +kernel
theorem dX9_child_20 : decode cX9_child 20 = .ok (.iconst 3, 1) := by decide +kernel
theorem dX9_child_21 : decode cX9_child 21 = .ok (.invokestatic 73, 3) := by decide +kernel
theorem dX9_child_24 : decode cX9_child 24 = .ok (.ifCond .eq 30, 3) := by decide +kernel
theorem dX9_child_27 : decode cX9_child 27 = .ok (.aload_n 0, 1) := by decide +kernel
theorem dX9_child_28 : decode cX9_child 28 = .ok (.iload 4, 2) := by decide +kernel
theorem dX9_child_30 : decode cX9_child 30 = .ok (.iconst 1, 1) := by decide +kernel
theorem dX9_child_31 : decode cX9_child 31 = .ok (.invokevirtual 77, 3) := by decide +kernel
theorem dX9_child_34 : decode cX9_child 34 = .ok (.iload_n 1, 1) := by decide +kernel
theorem dX9_child_35 : decode cX9_child 35 = .ok (.if_icmp .ne 19, 3) := by decide +kernel
theorem dX9_child_38 : decode cX9_child 38 = .ok (.aload_n 0, 1) := by decide +kernel
theorem dX9_child_39 : decode cX9_child 39 = .ok (.iload 4, 2) := by decide +kernel
theorem dX9_child_41 : decode cX9_child 41 = .ok (.iconst 2, 1) := by decide +kernel
theorem dX9_child_42 : decode cX9_child 42 = .ok (.invokevirtual 77, 3) := by decide +kernel
theorem dX9_child_45 : decode cX9_child 45 = .ok (.iload_n 2, 1) := by decide +kernel
theorem dX9_child_46 : decode cX9_child 46 = .ok (.if_icmp .ne 8, 3) := by decide +kernel
theorem dX9_child_49 : decode cX9_child 49 = .ok (.iload 4, 2) := by decide +kernel
theorem dX9_child_51 : decode cX9_child 51 = .ok (.goto 4, 3) := by decide +kernel
theorem dX9_child_54 : decode cX9_child 54 = .ok (.iload_n 3, 1) := by decide +kernel
theorem dX9_child_55 : decode cX9_child 55 = .ok (.istore_n 3, 1) := by decide +kernel
theorem dX9_child_56 : decode cX9_child 56 = .ok (.iinc 4 1, 3) := by decide +kernel
theorem dX9_child_59 : decode cX9_child 59 = .ok (.goto (-54), 3) := by decide +kernel
theorem dX9_child_62 : decode cX9_child 62 = .ok (.iload_n 3, 1) := by decide +kernel
theorem dX9_child_63 : decode cX9_child 63 = .ok (.ireturn, 1) := by decide +kernel
theorem m_child (hG : GP G) (hM : MoS S r) {N : Int} (hB : TB N T) (hN : N ≤ 1073741824) {x y : Int} (hx : -2147483648 ≤ x ∧ x ≤ 2147483647) (hy : -2147483648 ≤ y ∧ y ≤ 2147483647) : Ct G l yX9_child wsX9_child 1 0 0 [.ref r, .int (I32 x), .int (I32 y)] S n (ptT mu r T) la (Dt (some (.int (I32 (chT T x y)))) S n (ptT mu r T) la) := by
  have o9 := hM.1
  refine Ct.ofV (cc := cX9_child) (nL := 5) (ret := (some .int)) [some (.ref r), some (.int (I32 x)), some (.int (I32 y)), none, none] hG (by decide) rfl (Nat.le_of_ble_eq_true rfl) rfl ?_
  rintro X rfl rfl C hcl hsl E
  have loop : ∀ (d j : Nat), j + d = 32 → V X 5 [some (.ref r), some (.int (I32 x)), some (.int (I32 y)), some (.int (I32 (laG (isC T x y) j))), some (.int (I32 (j : Int)))] [] S n (ptT mu r T) la 0 0 := by
    intro d
    induction d with
    | zero =>
      intro j h1
      have hj : j = 32 := by omega
      subst hj
      refine V_iload C dX9_child_5 rfl ?_
      refine V_bipush C dX9_child_7 (by decide +kernel) ?_
      refine V_icmp_ge C 62 dX9_child_9 (by decide) (by omega) (by omega) (fun z9 => ?_) (fun z9 => ?_)
      · refine V_iload_n C dX9_child_62 rfl ?_
        refine V_ireturn C E dX9_child_63 (by omega) (by omega) ?_
        exact Dt_rfl
      · exact absurd z9 (by first | omega | decide)
    | succ d ih =>
      intro j h1
      have b0 := hB.n 0 (by decide) (i := (j : Int)) (by omega)
      have b1 := hB.n 1 (by decide) (i := (j : Int)) (by omega)
      have b2 := hB.n 2 (by decide) (i := (j : Int)) (by omega)
      have bi := inI_b (T 0 j) 1 3
      have h9 := ih (j + 1) (by omega)
      rw [laG] at h9
      refine V_iload C dX9_child_5 rfl ?_
      refine V_bipush C dX9_child_7 (by decide +kernel) ?_
      refine V_icmp_ge C 62 dX9_child_9 (by decide) (by omega) (by omega) (fun z9 => ?_) (fun z9 => ?_)
      · exact absurd z9 (by first | omega | decide)
      · refine V_aload_n C dX9_child_12 rfl ?_
        refine V_iload C dX9_child_13 rfl ?_
        refine V_iconst C dX9_child_15 ?_
        refine V_callVD (nA := 2) C dX9_child_16 (m_of C.gp hM (by omega) 0 (by decide) rfl) gX9_child_X9_of rfl o9 rfl (by decide +kernel) rfl (by decide) (by decide) (Nat.le_of_ble_eq_true rfl) ⟨by omega, by omega⟩ rfl ?_
        refine V_iconst C dX9_child_19 ?_
        refine V_iconst C dX9_child_20 ?_
        refine V_callSD (nA := 3) C dX9_child_21 (m_in C.gp (by omega) (by omega) (by omega)) gX9_child_X9_in rfl (by decide +kernel) rfl (by decide) (by decide) (Nat.le_of_ble_eq_true rfl) ⟨by omega, by omega⟩ rfl ?_
        refine V_if_eq C 54 dX9_child_24 (by decide) (by omega) (fun z24 => ?_) (fun z24 => ?_)
        · rw [if_neg (by unfold isC; unfold inI at *; (repeat' split) <;> omega)] at h9
          refine V_iload_n C dX9_child_54 rfl ?_
          refine V_istore_n C dX9_child_55 rfl (by decide) ?_
          refine V_iinc C dX9_child_56 rfl rfl (by decide) ?_
          refine V_goto C 5 dX9_child_59 (by decide) ?_
          exact h9
        · refine V_aload_n C dX9_child_27 rfl ?_
          refine V_iload C dX9_child_28 rfl ?_
          refine V_iconst C dX9_child_30 ?_
          refine V_callVD (nA := 2) C dX9_child_31 (m_of C.gp hM (by omega) 1 (by decide) rfl) gX9_child_X9_of rfl o9 rfl (by decide +kernel) rfl (by decide) (by decide) (Nat.le_of_ble_eq_true rfl) ⟨by omega, by omega⟩ rfl ?_
          refine V_iload_n C dX9_child_34 rfl ?_
          refine V_icmp_ne C 54 dX9_child_35 (by decide) (by omega) (by omega) (fun z35 => ?_) (fun z35 => ?_)
          · rw [if_neg (by unfold isC; unfold inI at *; (repeat' split) <;> omega)] at h9
            refine V_iload_n C dX9_child_54 rfl ?_
            refine V_istore_n C dX9_child_55 rfl (by decide) ?_
            refine V_iinc C dX9_child_56 rfl rfl (by decide) ?_
            refine V_goto C 5 dX9_child_59 (by decide) ?_
            exact h9
          · refine V_aload_n C dX9_child_38 rfl ?_
            refine V_iload C dX9_child_39 rfl ?_
            refine V_iconst C dX9_child_41 ?_
            refine V_callVD (nA := 2) C dX9_child_42 (m_of C.gp hM (by omega) 2 (by decide) rfl) gX9_child_X9_of rfl o9 rfl (by decide +kernel) rfl (by decide) (by decide) (Nat.le_of_ble_eq_true rfl) ⟨by omega, by omega⟩ rfl ?_
            refine V_iload_n C dX9_child_45 rfl ?_
            refine V_icmp_ne C 54 dX9_child_46 (by decide) (by omega) (by omega) (fun z46 => ?_) (fun z46 => ?_)
            · rw [if_neg (by unfold isC; unfold inI at *; (repeat' split) <;> omega)] at h9
              refine V_iload_n C dX9_child_54 rfl ?_
              refine V_istore_n C dX9_child_55 rfl (by decide) ?_
              refine V_iinc C dX9_child_56 rfl rfl (by decide) ?_
              refine V_goto C 5 dX9_child_59 (by decide) ?_
              exact h9
            · rw [if_pos (by unfold isC; unfold inI at *; (repeat' split) <;> omega)] at h9
              refine V_iload C dX9_child_49 rfl ?_
              refine V_goto C 55 dX9_child_51 (by decide) ?_
              refine V_istore_n C dX9_child_55 rfl (by decide) ?_
              refine V_iinc C dX9_child_56 rfl rfl (by decide) ?_
              refine V_goto C 5 dX9_child_59 (by decide) ?_
              exact h9
  refine V_iconst C dX9_child_0 ?_
  refine V_istore_n C dX9_child_1 rfl (by decide) ?_
  refine V_iconst C dX9_child_2 ?_
  refine V_istore C dX9_child_3 rfl (by decide) ?_
  exact loop 32 0 (by omega)
set_option maxRecDepth 20000 in
theorem ggX9_count_X9_of : GoodIn wsX9_count wsX9_of := goodIn_r _ [5, 6, 7, 8, 9, 10, 11, 12, 13, 14, 15, 16, 17, 18, 19, 20, 21, 22, 23, 24, 25, 26, 27, 28, 29, 30] (by decide +kernel) (by decide +kernel)
set_option maxRecDepth 20000 in
theorem gX9_count_X9_of : GoodIn wsX9_count (wsV RX9 77 RX9 yX9_of wsX9_of) := goodIn_app (goodIn_of _ (by decide +kernel)) ggX9_count_X9_of
theorem dX9_count_0 : decode cX9_count 0 = .ok (.iconst 0, 1) := by decide +kernel
theorem dX9_count_1 : decode cX9_count 1 = .ok (.istore_n 2, 1) := by decide +kernel
theorem dX9_count_2 : decode cX9_count 2 = .ok (.iconst 0, 1) := by decide +kernel
theorem dX9_count_3 : decode cX9_count 3 = .ok (.istore_n 3, 1) := by decide +kernel
theorem dX9_count_4 : decode cX9_count 4 = .ok (.iload_n 3, 1) := by decide +kernel
theorem dX9_count_5 : decode cX9_count 5 = .ok (.bipush 32, 2) := by decide +kernel
theorem dX9_count_7 : decode cX9_count 7 = .ok (.if_icmp .ge 27, 3) := by decide +kernel
theorem dX9_count_10 : decode cX9_count 10 = .ok (.iload_n 2, 1) := by decide +kernel
theorem dX9_count_11 : decode cX9_count 11 = .ok (.aload_n 0, 1) := by decide +kernel
theorem dX9_count_12 : decode cX9_count 12 = .ok (.iload_n 3, 1) := by decide +kernel
theorem dX9_count_13 : decode cX9_count 13 = .ok (.iconst 0, 1) := by decide +kernel
theorem dX9_count_14 : decode cX9_count 14 = .ok (.invokevirtual 77, 3) := by decide +kernel
theorem dX9_count_17 : decode cX9_count 17 = .ok (.iload_n 1, 1) := by decide +kernel
theorem dX9_count_18 : decode cX9_count 18 = .ok (.if_icmp .ne 7, 3) := by decide +kernel
theorem dX9_count_21 : decode cX9_count 21 = .ok (.iconst 1, 1) := by decide +kernel
theorem dX9_count_22 : decode cX9_count 22 = .ok (.goto 4, 3) := by decide +kernel
theorem dX9_count_25 : decode cX9_count 25 = .ok (.iconst 0, 1) := by decide +kernel
theorem dX9_count_26 : decode cX9_count 26 = .ok (.iadd, 1) := by decide +kernel
theorem dX9_count_27 : decode cX9_count 27 = .ok (.istore_n 2, 1) := by decide +kernel
theorem dX9_count_28 : decode cX9_count 28 = .ok (.iinc 3 1, 3) := by decide +kernel
theorem dX9_count_31 : decode cX9_count 31 = .ok (.goto (-27), 3) := by decide +kernel
theorem dX9_count_34 : decode cX9_count 34 = .ok (.iload_n 2, 1) := by decide +kernel
theorem dX9_count_35 : decode cX9_count 35 = .ok (.ireturn, 1) := by decide +kernel
theorem m_count (hG : GP G) (hM : MoS S r) {N : Int} (hB : TB N T) (hN : N ≤ 1073741824) {x : Int} (hx : -2147483648 ≤ x ∧ x ≤ 2147483647) : Ct G l yX9_count wsX9_count 1 0 0 [.ref r, .int (I32 x)] S n (ptT mu r T) la (Dt (some (.int (I32 (ctT T x)))) S n (ptT mu r T) la) := by
  have o9 := hM.1
  refine Ct.ofV (cc := cX9_count) (nL := 4) (ret := (some .int)) [some (.ref r), some (.int (I32 x)), none, none] hG (by decide) rfl (Nat.le_of_ble_eq_true rfl) rfl ?_
  rintro X rfl rfl C hcl hsl E
  have loop : ∀ (d j : Nat), j + d = 32 → V X 4 [some (.ref r), some (.int (I32 x)), some (.int (I32 (smG (ind T 0 x) j))), some (.int (I32 (j : Int)))] [] S n (ptT mu r T) la 0 0 := by
    intro d
    induction d with
    | zero =>
      intro j h1
      have hj : j = 32 := by omega
      subst hj
      refine V_iload_n C dX9_count_4 rfl ?_
      refine V_bipush C dX9_count_5 (by decide +kernel) ?_
      refine V_icmp_ge C 34 dX9_count_7 (by decide) (by omega) (by omega) (fun z7 => ?_) (fun z7 => ?_)
      · refine V_iload_n C dX9_count_34 rfl ?_
        refine V_ireturn C E dX9_count_35 (by omega) (by omega) ?_
        exact Dt_rfl
      · exact absurd z7 (by first | omega | decide)
    | succ d ih =>
      intro j h1
      have b0 := hB.n 0 (by decide) (i := (j : Int)) (by omega)
      have h9 := ih (j + 1) (by omega)
      rw [smG] at h9
      refine V_iload_n C dX9_count_4 rfl ?_
      refine V_bipush C dX9_count_5 (by decide +kernel) ?_
      refine V_icmp_ge C 34 dX9_count_7 (by decide) (by omega) (by omega) (fun z7 => ?_) (fun z7 => ?_)
      · exact absurd z7 (by first | omega | decide)
      · refine V_iload_n C dX9_count_10 rfl ?_
        refine V_aload_n C dX9_count_11 rfl ?_
        refine V_iload_n C dX9_count_12 rfl ?_
        refine V_iconst C dX9_count_13 ?_
        refine V_callVD (nA := 2) C dX9_count_14 (m_of C.gp hM (by omega) 0 (by decide) rfl) gX9_count_X9_of rfl o9 rfl (by decide +kernel) rfl (by decide) (by decide) (Nat.le_of_ble_eq_true rfl) ⟨by omega, by omega⟩ rfl ?_
        refine V_iload_n C dX9_count_17 rfl ?_
        refine V_icmp_ne C 25 dX9_count_18 (by decide) (by omega) (by omega) (fun z18 => ?_) (fun z18 => ?_)
        · rw [show ind T 0 x j = 0 by unfold ind; (repeat' split) <;> omega] at h9
          refine V_iconst C dX9_count_25 ?_
          refine V_iadd C dX9_count_26 ?_
          refine V_istore_n C dX9_count_27 rfl (by decide) ?_
          refine V_iinc C dX9_count_28 rfl rfl (by decide) ?_
          refine V_goto C 4 dX9_count_31 (by decide) ?_
          exact h9
        · rw [show ind T 0 x j = 1 by unfold ind; (repeat' split) <;> omega] at h9
          refine V_iconst C dX9_count_21 ?_
          refine V_goto C 26 dX9_count_22 (by decide) ?_
          refine V_iadd C dX9_count_26 ?_
          refine V_istore_n C dX9_count_27 rfl (by decide) ?_
          refine V_iinc C dX9_count_28 rfl rfl (by decide) ?_
          refine V_goto C 4 dX9_count_31 (by decide) ?_
          exact h9
  refine V_iconst C dX9_count_0 ?_
  refine V_istore_n C dX9_count_1 rfl (by decide) ?_
  refine V_iconst C dX9_count_2 ?_
  refine V_istore_n C dX9_count_3 rfl (by decide) ?_
  exact loop 32 0 (by omega)
set_option maxRecDepth 20000 in
theorem ggX9_tabs_X9_groupOf : GoodIn wsX9_tabs wsX9_groupOf := goodIn_r _ [6, 1, 7, 8, 9, 10, 11, 12, 13, 14, 15, 16, 17, 18, 19, 20, 21, 22, 23, 24, 25, 26, 27, 28, 29, 30] (by decide +kernel) (by decide +kernel)
set_option maxRecDepth 20000 in
theorem gX9_tabs_X9_groupOf : GoodIn wsX9_tabs (wsV RX9 85 RX9 yX9_groupOf wsX9_groupOf) := goodIn_app (goodIn_of _ (by decide +kernel)) ggX9_tabs_X9_groupOf
theorem dX9_tabs_0 : decode cX9_tabs 0 = .ok (.iconst 0, 1) := by decide +kernel
theorem dX9_tabs_1 : decode cX9_tabs 1 = .ok (.istore_n 2, 1) := by decide +kernel
theorem dX9_tabs_2 : decode cX9_tabs 2 = .ok (.iconst 0, 1) := by decide +kernel
theorem dX9_tabs_3 : decode cX9_tabs 3 = .ok (.istore_n 3, 1) := by decide +kernel
theorem dX9_tabs_4 : decode cX9_tabs 4 = .ok (.iload_n 3, 1) := by decide +kernel
theorem dX9_tabs_5 : decode cX9_tabs 5 = .ok (.aload_n 0, 1) := by decide +kernel
theorem dX9_tabs_6 : decode cX9_tabs 6 = .ok (.getfield 7, 3) := by decide +kernel
theorem dX9_tabs_9 : decode cX9_tabs 9 = .ok (.iconst 2, 1) := by decide +kernel
theorem dX9_tabs_10 : decode cX9_tabs 10 = .ok (.iaload, 1) := by decide +kernel
theorem dX9_tabs_11 : decode cX9_tabs 11 = .ok (.if_icmp .ge 26, 3) := by decide +kernel
theorem dX9_tabs_14 : decode cX9_tabs 14 = .ok (.iload_n 2, 1) := by decide +kernel
theorem dX9_tabs_15 : decode cX9_tabs 15 = .ok (.aload_n 0, 1) := by decide +kernel
theorem dX9_tabs_16 : decode cX9_tabs 16 = .ok (.iload_n 3, 1) := by decide +kernel
theorem dX9_tabs_17 : decode cX9_tabs 17 = .ok (.invokevirtual 85, 3) := by decide +kernel
theorem dX9_tabs_20 : decode cX9_tabs 20 = .ok (.iload_n 1, 1) := by decide +kernel
theorem dX9_tabs_21 : decode cX9_tabs 21 = .ok (.if_icmp .ne 7, 3) := by decide +kernel
theorem dX9_tabs_24 : decode cX9_tabs 24 = .ok (.iconst 1, 1) := by decide +kernel
theorem dX9_tabs_25 : decode cX9_tabs 25 = .ok (.goto 4, 3) := by decide +kernel
theorem dX9_tabs_28 : decode cX9_tabs 28 = .ok (.iconst 0, 1) := by decide +kernel
theorem dX9_tabs_29 : decode cX9_tabs 29 = .ok (.iadd, 1) := by decide +kernel
theorem dX9_tabs_30 : decode cX9_tabs 30 = .ok (.istore_n 2, 1) := by decide +kernel
theorem dX9_tabs_31 : decode cX9_tabs 31 = .ok (.iinc 3 1, 3) := by decide +kernel
theorem dX9_tabs_34 : decode cX9_tabs 34 = .ok (.goto (-30), 3) := by decide +kernel
theorem dX9_tabs_37 : decode cX9_tabs 37 = .ok (.iload_n 2, 1) := by decide +kernel
theorem dX9_tabs_38 : decode cX9_tabs 38 = .ok (.ireturn, 1) := by decide +kernel
theorem hin_X9_tabs_X9 : ∀ w ∈ wsX90, w ∈ wsX9_tabs := by decide +kernel
theorem lk_X9_tabs_7 : Cond.fieldLink RX9 7 RX9 "s" "[I" ∈ wsX9_tabs := by decide +kernel
theorem m_tabs (hG : GP G) (hM : MoS S r) {N : Int} (hB : TB N T) (hN : N ≤ 1073741824) (hP : 0 ≤ mu (r + 1) 2 ∧ mu (r + 1) 2 ≤ 16) {x : Int} (hx : -2147483648 ≤ x ∧ x ≤ 2147483647) : Ct G l yX9_tabs wsX9_tabs 1 0 0 [.ref r, .int (I32 x)] S n (ptT mu r T) la (Dt (some (.int (I32 (tbT T (mu (r + 1) 2) x)))) S n (ptT mu r T) la) := by
  have o9 := hM.1
  unfold tbT
  refine Ct.ofV (cc := cX9_tabs) (nL := 4) (ret := (some .int)) [some (.ref r), some (.int (I32 x)), none, none] hG (by decide) rfl (Nat.le_of_ble_eq_true rfl) rfl ?_
  rintro X rfl rfl C hcl hsl E
  have loop : ∀ (d j : Nat), j + d = (mu (r + 1) 2).toNat → V X 4 [some (.ref r), some (.int (I32 x)), some (.int (I32 (smG (ind T 9 x) j))), some (.int (I32 (j : Int)))] [] S n (ptT mu r T) la 0 0 := by
    intro d
    induction d with
    | zero =>
      intro j h1
      have hj : j = (mu (r + 1) 2).toNat := by omega
      refine V_iload_n C dX9_tabs_4 rfl ?_
      refine V_aload_n C dX9_tabs_5 rfl ?_
      refine V_getR C 0 dX9_tabs_6 o9 rfl hin_X9_tabs_X9 (by decide) lk_X9_tabs_7 rfl rfl ?_
      refine V_iconst C dX9_tabs_9 ?_
      refine V_ialdJ C dX9_tabs_10 hM.2.1 (by first | assumption | decide) (by omega) (pt_lo (by decide)) ?_
      refine V_icmp_ge C 37 dX9_tabs_11 (by decide) (by omega) (by omega) (fun z11 => ?_) (fun z11 => ?_)
      · refine V_iload_n C dX9_tabs_37 rfl ?_
        refine V_ireturn C E dX9_tabs_38 (by omega) (by omega) ?_
        rw [hj]
        exact Dt_rfl
      · exact absurd z11 (by first | omega | decide)
    | succ d ih =>
      intro j h1
      have b0 := hB.g (i := (j : Int)) (by omega)
      have h9 := ih (j + 1) (by omega)
      rw [smG] at h9
      refine V_iload_n C dX9_tabs_4 rfl ?_
      refine V_aload_n C dX9_tabs_5 rfl ?_
      refine V_getR C 0 dX9_tabs_6 o9 rfl hin_X9_tabs_X9 (by decide) lk_X9_tabs_7 rfl rfl ?_
      refine V_iconst C dX9_tabs_9 ?_
      refine V_ialdJ C dX9_tabs_10 hM.2.1 (by first | assumption | decide) (by omega) (pt_lo (by decide)) ?_
      refine V_icmp_ge C 37 dX9_tabs_11 (by decide) (by omega) (by omega) (fun z11 => ?_) (fun z11 => ?_)
      · exact absurd z11 (by first | omega | decide)
      · refine V_iload_n C dX9_tabs_14 rfl ?_
        refine V_aload_n C dX9_tabs_15 rfl ?_
        refine V_iload_n C dX9_tabs_16 rfl ?_
        refine V_callVD (nA := 1) C dX9_tabs_17 (m_groupOf C.gp hM (by omega)) gX9_tabs_X9_groupOf rfl o9 rfl (by decide +kernel) rfl (by decide) (by decide) (Nat.le_of_ble_eq_true rfl) ⟨by omega, by omega⟩ rfl ?_
        refine V_iload_n C dX9_tabs_20 rfl ?_
        refine V_icmp_ne C 28 dX9_tabs_21 (by decide) (by omega) (by omega) (fun z21 => ?_) (fun z21 => ?_)
        · rw [show ind T 9 x j = 0 by unfold ind; (repeat' split) <;> omega] at h9
          refine V_iconst C dX9_tabs_28 ?_
          refine V_iadd C dX9_tabs_29 ?_
          refine V_istore_n C dX9_tabs_30 rfl (by decide) ?_
          refine V_iinc C dX9_tabs_31 rfl rfl (by decide) ?_
          refine V_goto C 4 dX9_tabs_34 (by decide) ?_
          exact h9
        · rw [show ind T 9 x j = 1 by unfold ind; (repeat' split) <;> omega] at h9
          refine V_iconst C dX9_tabs_24 ?_
          refine V_goto C 29 dX9_tabs_25 (by decide) ?_
          refine V_iadd C dX9_tabs_29 ?_
          refine V_istore_n C dX9_tabs_30 rfl (by decide) ?_
          refine V_iinc C dX9_tabs_31 rfl rfl (by decide) ?_
          refine V_goto C 4 dX9_tabs_34 (by decide) ?_
          exact h9
  refine V_iconst C dX9_tabs_0 ?_
  refine V_istore_n C dX9_tabs_1 rfl (by decide) ?_
  refine V_iconst C dX9_tabs_2 ?_
  refine V_istore_n C dX9_tabs_3 rfl (by decide) ?_
  exact loop (mu (r + 1) 2).toNat 0 (by omega)
set_option maxRecDepth 20000 in
theorem ggX9_tabOf_X9_groupOf : GoodIn wsX9_tabOf wsX9_groupOf := goodIn_r _ [6, 1, 11, 12, 13, 14, 15, 16, 17, 18, 19, 20, 21, 22, 23, 24, 25, 26, 27, 28, 29, 30, 31, 32, 33, 34] (by decide +kernel) (by decide +kernel)
set_option maxRecDepth 20000 in
theorem gX9_tabOf_X9_groupOf : GoodIn wsX9_tabOf (wsV RX9 85 RX9 yX9_groupOf wsX9_groupOf) := goodIn_app (goodIn_of _ (by decide +kernel)) ggX9_tabOf_X9_groupOf
set_option maxRecDepth 20000 in
theorem ggX9_tabOf_X9_placeOf : GoodIn wsX9_tabOf wsX9_placeOf := goodIn_r _ [10, 1, 11, 12, 13, 14, 15, 16, 17, 18, 19, 20, 21, 22, 23, 24, 25, 26, 27, 28, 29, 30, 31, 32, 33, 34] (by decide +kernel) (by decide +kernel)
set_option maxRecDepth 20000 in
theorem gX9_tabOf_X9_placeOf : GoodIn wsX9_tabOf (wsV RX9 88 RX9 yX9_placeOf wsX9_placeOf) := goodIn_app (goodIn_of _ (by decide +kernel)) ggX9_tabOf_X9_placeOf
theorem dX9_tabOf_0 : decode cX9_tabOf 0 = .ok (.iconst (-1), 1) := by decide +kernel
theorem dX9_tabOf_1 : decode cX9_tabOf 1 = .ok (.istore_n 3, 1) := by decide +kernel
theorem dX9_tabOf_2 : decode cX9_tabOf 2 = .ok (.iconst 0, 1) := by decide +kernel
theorem dX9_tabOf_3 : decode cX9_tabOf 3 = .ok (.istore 4, 2) := by decide +kernel
theorem dX9_tabOf_5 : decode cX9_tabOf 5 = .ok (.iload 4, 2) := by decide +kernel
theorem dX9_tabOf_7 : decode cX9_tabOf 7 = .ok (.aload_n 0, 1) := by decide +kernel
theorem dX9_tabOf_8 : decode cX9_tabOf 8 = .ok (.getfield 7, 3) := by decide +kernel
theorem dX9_tabOf_11 : decode cX9_tabOf 11 = .ok (.iconst 2, 1) := by decide +kernel
theorem dX9_tabOf_12 : decode cX9_tabOf 12 = .ok (.iaload, 1) := by decide +kernel
theorem dX9_tabOf_13 : decode cX9_tabOf 13 = .ok (.if_icmp .ge 36, 3) := by decide +kernel
theorem dX9_tabOf_16 : decode cX9_tabOf 16 = .ok (.aload_n 0, 1) := by decide +kernel
theorem dX9_tabOf_17 : decode cX9_tabOf 17 = .ok (.iload 4, 2) := by decide +kernel
theorem dX9_tabOf_19 : decode cX9_tabOf 19 = .ok (.invokevirtual 85, 3) := by decide +kernel
theorem dX9_tabOf_22 : decode cX9_tabOf 22 = .ok (.iload_n 1, 1) := by decide +kernel
theorem dX9_tabOf_23 : decode cX9_tabOf 23 = .ok (.if_icmp .ne 18, 3) := by decide +kernel
theorem dX9_tabOf_26 : decode cX9_tabOf 26 = .ok (.aload_n 0, 1) := by decide +kernel
theorem dX9_tabOf_27 : decode cX9_tabOf 27 = .ok (.iload 4, 2) := by decide +kernel
theorem dX9_tabOf_29 : decode cX9_tabOf 29 = .ok (.invokevirtual 88, 3) := by decide +kernel
theorem dX9_tabOf_32 : decode cX9_tabOf 32 = .ok (.iload_n 2, 1) := by decide +kernel
theorem dX9_tabOf_33 : decode cX9_tabOf 33 = .ok (.if_icmp .ne 8, 3) := by decide +kernel
theorem dX9_tabOf_36 : decode cX9_tabOf 36 = .ok (.iload 4, 2) := by decide +kernel
theorem dX9_tabOf_38 : decode cX9_tabOf 38 = .ok (.goto 4, 3) := by decide +kernel
theorem dX9_tabOf_41 : decode cX9_tabOf 41 = .ok (.iload_n 3, 1) := by decide +kernel
theorem dX9_tabOf_42 : decode cX9_tabOf 42 = .ok (.istore_n 3, 1) := by decide +kernel
theorem dX9_tabOf_43 : decode cX9_tabOf 43 = .ok (.iinc 4 1, 3) := by decide +kernel
theorem dX9_tabOf_46 : decode cX9_tabOf 46 = .ok (.goto (-41), 3) := by decide +kernel
theorem dX9_tabOf_49 : decode cX9_tabOf 49 = .ok (.iload_n 3, 1) := by decide +kernel
theorem dX9_tabOf_50 : decode cX9_tabOf 50 = .ok (.ireturn, 1) := by decide +kernel
theorem hin_X9_tabOf_X9 : ∀ w ∈ wsX90, w ∈ wsX9_tabOf := by decide +kernel
theorem lk_X9_tabOf_7 : Cond.fieldLink RX9 7 RX9 "s" "[I" ∈ wsX9_tabOf := by decide +kernel
theorem m_tabOf (hG : GP G) (hM : MoS S r) {N : Int} (hB : TB N T) (hN : N ≤ 1073741824) (hP : 0 ≤ mu (r + 1) 2 ∧ mu (r + 1) 2 ≤ 16) {x y : Int} (hx : -2147483648 ≤ x ∧ x ≤ 2147483647) (hy : -2147483648 ≤ y ∧ y ≤ 2147483647) : Ct G l yX9_tabOf wsX9_tabOf 1 0 0 [.ref r, .int (I32 x), .int (I32 y)] S n (ptT mu r T) la (Dt (some (.int (I32 (toT T (mu (r + 1) 2) x y)))) S n (ptT mu r T) la) := by
  have o9 := hM.1
  unfold toT
  refine Ct.ofV (cc := cX9_tabOf) (nL := 5) (ret := (some .int)) [some (.ref r), some (.int (I32 x)), some (.int (I32 y)), none, none] hG (by decide) rfl (Nat.le_of_ble_eq_true rfl) rfl ?_
  rintro X rfl rfl C hcl hsl E
  have loop : ∀ (d j : Nat), j + d = (mu (r + 1) 2).toNat → V X 5 [some (.ref r), some (.int (I32 x)), some (.int (I32 y)), some (.int (I32 (laG (isP T x y) j))), some (.int (I32 (j : Int)))] [] S n (ptT mu r T) la 0 0 := by
    intro d
    induction d with
    | zero =>
      intro j h1
      have hj : j = (mu (r + 1) 2).toNat := by omega
      refine V_iload C dX9_tabOf_5 rfl ?_
      refine V_aload_n C dX9_tabOf_7 rfl ?_
      refine V_getR C 0 dX9_tabOf_8 o9 rfl hin_X9_tabOf_X9 (by decide) lk_X9_tabOf_7 rfl rfl ?_
      refine V_iconst C dX9_tabOf_11 ?_
      refine V_ialdJ C dX9_tabOf_12 hM.2.1 (by first | assumption | decide) (by omega) (pt_lo (by decide)) ?_
      refine V_icmp_ge C 49 dX9_tabOf_13 (by decide) (by omega) (by omega) (fun z13 => ?_) (fun z13 => ?_)
      · refine V_iload_n C dX9_tabOf_49 rfl ?_
        refine V_ireturn C E dX9_tabOf_50 (by omega) (by omega) ?_
        rw [hj]
        exact Dt_rfl
      · exact absurd z13 (by first | omega | decide)
    | succ d ih =>
      intro j h1
      have b0 := hB.g (i := (j : Int)) (by omega)
      have b1 := hB.q 10 (by decide) (i := (j : Int)) (by omega)
      have h9 := ih (j + 1) (by omega)
      rw [laG] at h9
      refine V_iload C dX9_tabOf_5 rfl ?_
      refine V_aload_n C dX9_tabOf_7 rfl ?_
      refine V_getR C 0 dX9_tabOf_8 o9 rfl hin_X9_tabOf_X9 (by decide) lk_X9_tabOf_7 rfl rfl ?_
      refine V_iconst C dX9_tabOf_11 ?_
      refine V_ialdJ C dX9_tabOf_12 hM.2.1 (by first | assumption | decide) (by omega) (pt_lo (by decide)) ?_
      refine V_icmp_ge C 49 dX9_tabOf_13 (by decide) (by omega) (by omega) (fun z13 => ?_) (fun z13 => ?_)
      · exact absurd z13 (by first | omega | decide)
      · refine V_aload_n C dX9_tabOf_16 rfl ?_
        refine V_iload C dX9_tabOf_17 rfl ?_
        refine V_callVD (nA := 1) C dX9_tabOf_19 (m_groupOf C.gp hM (by omega)) gX9_tabOf_X9_groupOf rfl o9 rfl (by decide +kernel) rfl (by decide) (by decide) (Nat.le_of_ble_eq_true rfl) ⟨by omega, by omega⟩ rfl ?_
        refine V_iload_n C dX9_tabOf_22 rfl ?_
        refine V_icmp_ne C 41 dX9_tabOf_23 (by decide) (by omega) (by omega) (fun z23 => ?_) (fun z23 => ?_)
        · rw [if_neg (by unfold isP; (repeat' split) <;> omega)] at h9
          refine V_iload_n C dX9_tabOf_41 rfl ?_
          refine V_istore_n C dX9_tabOf_42 rfl (by decide) ?_
          refine V_iinc C dX9_tabOf_43 rfl rfl (by decide) ?_
          refine V_goto C 5 dX9_tabOf_46 (by decide) ?_
          exact h9
        · refine V_aload_n C dX9_tabOf_26 rfl ?_
          refine V_iload C dX9_tabOf_27 rfl ?_
          refine V_callVD (nA := 1) C dX9_tabOf_29 (m_placeOf C.gp hM (by omega)) gX9_tabOf_X9_placeOf rfl o9 rfl (by decide +kernel) rfl (by decide) (by decide) (Nat.le_of_ble_eq_true rfl) ⟨by omega, by omega⟩ rfl ?_
          refine V_iload_n C dX9_tabOf_32 rfl ?_
          refine V_icmp_ne C 41 dX9_tabOf_33 (by decide) (by omega) (by omega) (fun z33 => ?_) (fun z33 => ?_)
          · rw [if_neg (by unfold isP; (repeat' split) <;> omega)] at h9
            refine V_iload_n C dX9_tabOf_41 rfl ?_
            refine V_istore_n C dX9_tabOf_42 rfl (by decide) ?_
            refine V_iinc C dX9_tabOf_43 rfl rfl (by decide) ?_
            refine V_goto C 5 dX9_tabOf_46 (by decide) ?_
            exact h9
          · rw [if_pos (by unfold isP; (repeat' split) <;> omega)] at h9
            refine V_iload C dX9_tabOf_36 rfl ?_
            refine V_goto C 42 dX9_tabOf_38 (by decide) ?_
            refine V_istore_n C dX9_tabOf_42 rfl (by decide) ?_
            refine V_iinc C dX9_tabOf_43 rfl rfl (by decide) ?_
            refine V_goto C 5 dX9_tabOf_46 (by decide) ?_
            exact h9
  refine V_iconst C dX9_tabOf_0 ?_
  refine V_istore_n C dX9_tabOf_1 rfl (by decide) ?_
  refine V_iconst C dX9_tabOf_2 ?_
  refine V_istore C dX9_tabOf_3 rfl (by decide) ?_
  exact loop (mu (r + 1) 2).toNat 0 (by omega)
set_option maxRecDepth 20000 in
theorem ggX9_stateOf_X9_groupOf : GoodIn wsX9_stateOf wsX9_groupOf := goodIn_r _ [5, 6, 11, 12, 13, 14, 15, 16, 17, 18, 19, 20, 21, 22, 23, 24, 25, 26, 27, 28, 29, 30, 31, 32, 33, 34] (by decide +kernel) (by decide +kernel)
set_option maxRecDepth 20000 in
theorem gX9_stateOf_X9_groupOf : GoodIn wsX9_stateOf (wsV RX9 85 RX9 yX9_groupOf wsX9_groupOf) := goodIn_app (goodIn_of _ (by decide +kernel)) ggX9_stateOf_X9_groupOf
set_option maxRecDepth 20000 in
theorem ggX9_stateOf_X9_of : GoodIn wsX9_stateOf wsX9_of := goodIn_r _ [10, 6, 11, 12, 13, 14, 15, 16, 17, 18, 19, 20, 21, 22, 23, 24, 25, 26, 27, 28, 29, 30, 31, 32, 33, 34] (by decide +kernel) (by decide +kernel)
set_option maxRecDepth 20000 in
theorem gX9_stateOf_X9_of : GoodIn wsX9_stateOf (wsV RX9 77 RX9 yX9_of wsX9_of) := goodIn_app (goodIn_of _ (by decide +kernel)) ggX9_stateOf_X9_of
theorem dX9_stateOf_0 : decode cX9_stateOf 0 = .ok (.aload_n 0, 1) := by decide +kernel
theorem dX9_stateOf_1 : decode cX9_stateOf 1 = .ok (.iload_n 1, 1) := by decide +kernel
theorem dX9_stateOf_2 : decode cX9_stateOf 2 = .ok (.invokevirtual 85, 3) := by decide +kernel
theorem dX9_stateOf_5 : decode cX9_stateOf 5 = .ok (.iconst (-1), 1) := by decide +kernel
theorem dX9_stateOf_6 : decode cX9_stateOf 6 = .ok (.if_icmp .ne 7, 3) := by decide +kernel
theorem dX9_stateOf_9 : decode cX9_stateOf 9 = .ok (.iconst 0, 1) := by decide +kernel
theorem dX9_stateOf_10 : decode cX9_stateOf 10 = .ok (.goto 22, 3) := by decide +kernel
theorem dX9_stateOf_13 : decode cX9_stateOf 13 = .ok (.aload_n 0, 1) := by decide +kernel
theorem dX9_stateOf_14 : decode cX9_stateOf 14 = .ok (.aload_n 0, 1) := by decide +kernel
theorem dX9_stateOf_15 : decode cX9_stateOf 15 = .ok (.iload_n 1, 1) := by decide +kernel
theorem dX9_stateOf_16 : decode cX9_stateOf 16 = .ok (.invokevirtual 85, 3) := by decide +kernel
theorem dX9_stateOf_19 : decode cX9_stateOf 19 = .ok (.iconst 0, 1) := by decide +kernel
theorem dX9_stateOf_20 : decode cX9_stateOf 20 = .ok (.invokevirtual 77, 3) := by decide +kernel
theorem dX9_stateOf_23 : decode cX9_stateOf 23 = .ok (.iconst 4, 1) := by decide +kernel
theorem dX9_stateOf_24 : decode cX9_stateOf 24 = .ok (.if_icmp .ne 7, 3) := by decide +kernel
theorem dX9_stateOf_27 : decode cX9_stateOf 27 = .ok (.iconst 2, 1) := by decide +kernel
theorem dX9_stateOf_28 : decode cX9_stateOf 28 = .ok (.goto 4, 3) := by decide +kernel
theorem dX9_stateOf_31 : decode cX9_stateOf 31 = .ok (.iconst 1, 1) := by decide +kernel
theorem dX9_stateOf_32 : decode cX9_stateOf 32 = .ok (.ireturn, 1) := by decide +kernel
theorem m_stateOf (hG : GP G) (hM : MoS S r) {N : Int} (hB : TB N T) (hN : N ≤ 1073741824) {x : Int} (hx : 0 ≤ x ∧ x < 16) : Ct G l yX9_stateOf wsX9_stateOf 1 0 0 [.ref r, .int (I32 x)] S n (ptT mu r T) la (Dt (some (.int (I32 (sxT T x)))) S n (ptT mu r T) la) := by
  have o9 := hM.1
  have b0 := hB.g hx
  have bn : ¬ T 9 x = -1 → -N ≤ T 0 (T 9 x) ∧ T 0 (T 9 x) ≤ N := fun z => hB.n 0 (by decide) (by omega)
  refine Ct.ofV (cc := cX9_stateOf) (nL := 2) (ret := (some .int)) [some (.ref r), some (.int (I32 x))] hG (by decide) rfl (Nat.le_of_ble_eq_true rfl) rfl ?_
  rintro X rfl rfl C hcl hsl E
  refine V_aload_n C dX9_stateOf_0 rfl ?_
  refine V_iload_n C dX9_stateOf_1 rfl ?_
  refine V_callVD (nA := 1) C dX9_stateOf_2 (m_groupOf C.gp hM hx) gX9_stateOf_X9_groupOf rfl o9 rfl (by decide +kernel) rfl (by decide) (by decide) (Nat.le_of_ble_eq_true rfl) ⟨by omega, by omega⟩ rfl ?_
  refine V_iconst C dX9_stateOf_5 ?_
  refine V_icmp_ne C 13 dX9_stateOf_6 (by decide) (by omega) (by omega) (fun z6 => ?_) (fun z6 => ?_)
  · refine V_aload_n C dX9_stateOf_13 rfl ?_
    refine V_aload_n C dX9_stateOf_14 rfl ?_
    refine V_iload_n C dX9_stateOf_15 rfl ?_
    refine V_callVD (nA := 1) C dX9_stateOf_16 (m_groupOf C.gp hM hx) gX9_stateOf_X9_groupOf rfl o9 rfl (by decide +kernel) rfl (by decide) (by decide) (Nat.le_of_ble_eq_true rfl) ⟨by omega, by omega⟩ rfl ?_
    refine V_iconst C dX9_stateOf_19 ?_
    have bn := bn (by omega)
    refine V_callVD (nA := 2) C dX9_stateOf_20 (m_of C.gp hM (by omega) 0 (by decide) rfl) gX9_stateOf_X9_of rfl o9 rfl (by decide +kernel) rfl (by decide) (by decide) (Nat.le_of_ble_eq_true rfl) ⟨by omega, by omega⟩ rfl ?_
    refine V_iconst C dX9_stateOf_23 ?_
    refine V_icmp_ne C 31 dX9_stateOf_24 (by decide) (by omega) (by omega) (fun z24 => ?_) (fun z24 => ?_)
    · refine V_iconst C dX9_stateOf_31 ?_
      refine V_ireturn C E dX9_stateOf_32 (by omega) (by omega) ?_
      exact Dt_int (by unfold sxT; (repeat' split) <;> first | rfl | omega)
    · refine V_iconst C dX9_stateOf_27 ?_
      refine V_goto C 32 dX9_stateOf_28 (by decide) ?_
      refine V_ireturn C E dX9_stateOf_32 (by omega) (by omega) ?_
      exact Dt_int (by unfold sxT; (repeat' split) <;> first | rfl | omega)
  · refine V_iconst C dX9_stateOf_9 ?_
    refine V_goto C 32 dX9_stateOf_10 (by decide) ?_
    refine V_ireturn C E dX9_stateOf_32 (by omega) (by omega) ?_
    exact Dt_int (by unfold sxT; (repeat' split) <;> first | rfl | omega)
set_option maxRecDepth 20000 in
theorem ggX9_freeNode_X9_of : GoodIn wsX9_freeNode wsX9_of := goodIn_r _ [5, 6, 11, 12, 13, 14, 15, 16, 17, 18, 19, 20, 21, 22, 23, 24, 25, 26, 27, 28, 29, 30, 31, 32, 33, 34] (by decide +kernel) (by decide +kernel)
set_option maxRecDepth 20000 in
theorem gX9_freeNode_X9_of : GoodIn wsX9_freeNode (wsV RX9 77 RX9 yX9_of wsX9_of) := goodIn_app (goodIn_of _ (by decide +kernel)) ggX9_freeNode_X9_of
set_option maxRecDepth 20000 in
theorem ggX9_freeNode_X9_puts : GoodIn wsX9_freeNode wsX9_puts := goodIn_r _ [10, 6, 11, 12, 13, 14, 15, 16, 17, 18, 19, 20, 21, 22, 23, 24, 25, 26, 27, 28, 29, 30, 31, 32, 33, 34] (by decide +kernel) (by decide +kernel)
set_option maxRecDepth 20000 in
theorem gX9_freeNode_X9_puts : GoodIn wsX9_freeNode (wsV RX9 81 RX9 yX9_puts wsX9_puts) := goodIn_app (goodIn_of _ (by decide +kernel)) ggX9_freeNode_X9_puts
theorem dX9_freeNode_0 : decode cX9_freeNode 0 = .ok (.iconst 0, 1) := by decide +kernel
theorem dX9_freeNode_1 : decode cX9_freeNode 1 = .ok (.istore_n 1, 1) := by decide +kernel
theorem dX9_freeNode_2 : decode cX9_freeNode 2 = .ok (.aload_n 0, 1) := by decide +kernel
theorem dX9_freeNode_3 : decode cX9_freeNode 3 = .ok (.iload_n 1, 1) := by decide +kernel
theorem dX9_freeNode_4 : decode cX9_freeNode 4 = .ok (.iconst 0, 1) := by decide +kernel
theorem dX9_freeNode_5 : decode cX9_freeNode 5 = .ok (.invokevirtual 77, 3) := by decide +kernel
theorem dX9_freeNode_8 : decode cX9_freeNode 8 = .ok (.ifCond .eq 9, 3) := by decide +kernel
theorem dX9_freeNode_11 : decode cX9_freeNode 11 = .ok (.iinc 1 1, 3) := by decide +kernel
theorem dX9_freeNode_14 : decode cX9_freeNode 14 = .ok (.goto (-12), 3) := by decide +kernel
theorem dX9_freeNode_17 : decode cX9_freeNode 17 = .ok (.iconst 0, 1) := by decide +kernel
theorem dX9_freeNode_18 : decode cX9_freeNode 18 = .ok (.istore_n 2, 1) := by decide +kernel
theorem dX9_freeNode_19 : decode cX9_freeNode 19 = .ok (.iload_n 2, 1) := by decide +kernel
theorem dX9_freeNode_20 : decode cX9_freeNode 20 = .ok (.bipush 9, 2) := by decide +kernel
theorem dX9_freeNode_22 : decode cX9_freeNode 22 = .ok (.if_icmp .ge 16, 3) := by decide +kernel
theorem dX9_freeNode_25 : decode cX9_freeNode 25 = .ok (.aload_n 0, 1) := by decide +kernel
theorem dX9_freeNode_26 : decode cX9_freeNode 26 = .ok (.iload_n 1, 1) := by decide +kernel
theorem dX9_freeNode_27 : decode cX9_freeNode 27 = .ok (.iload_n 2, 1) := by decide +kernel
theorem dX9_freeNode_28 : decode cX9_freeNode 28 = .ok (.iconst 0, 1) := by decide +kernel
theorem dX9_freeNode_29 : decode cX9_freeNode 29 = .ok (.invokevirtual 81, 3) := by decide +kernel
theorem dX9_freeNode_32 : decode cX9_freeNode 32 = .ok (.iinc 2 1, 3) := by decide +kernel
theorem dX9_freeNode_35 : decode cX9_freeNode 35 = .ok (.goto (-16), 3) := by decide +kernel
theorem dX9_freeNode_38 : decode cX9_freeNode 38 = .ok (.iload_n 1, 1) := by decide +kernel
theorem dX9_freeNode_39 : decode cX9_freeNode 39 = .ok (.ireturn, 1) := by decide +kernel
def clT (T : Mem) (x : Int) : Nat → Mem
  | 0 => T
  | w + 1 => up (clT T x w) w x 0
theorem m_freeNode (hG : GP G) (hM : MoS S r) {N : Int} (hB : TB N T) (hN : N ≤ 1073741824) (hf : frT T ≠ -1) : Ct G l yX9_freeNode wsX9_freeNode 1 0 0 [.ref r] S n (ptT mu r T) la (Dt (some (.int (I32 (frT T)))) S n (ptT mu r (clT T (frT T) 9)) la) := by
  have o9 := hM.1
  have bR := fmG_b (ind T 0 0) 32 32 (by decide)
  unfold frT at hf ⊢
  generalize eR : fmG (ind T 0 0) 32 32 = R at hf bR
  refine Ct.ofV (cc := cX9_freeNode) (nL := 3) (ret := (some .int)) [some (.ref r), none, none] hG (by decide) rfl (Nat.le_of_ble_eq_true rfl) rfl ?_
  rintro X rfl rfl C hcl hsl E
  have loop2 : ∀ (d w : Nat), w + d = 9 → V X 19 [some (.ref r), some (.int (I32 R)), some (.int (I32 (w : Int)))] [] S n (ptT mu r (clT T R w)) la 0 0 := by
    intro d
    induction d with
    | zero =>
      intro w h1
      have hw : w = 9 := by omega
      subst hw
      refine V_iload_n C dX9_freeNode_19 rfl ?_
      refine V_bipush C dX9_freeNode_20 (by decide +kernel) ?_
      refine V_icmp_ge C 38 dX9_freeNode_22 (by decide) (by omega) (by omega) (fun z22 => ?_) (fun z22 => ?_)
      · refine V_iload_n C dX9_freeNode_38 rfl ?_
        refine V_ireturn C E dX9_freeNode_39 (by omega) (by omega) ?_
        exact Dt_rfl
      · exact absurd z22 (by first | omega | decide)
    | succ d ih =>
      intro w h1
      refine V_iload_n C dX9_freeNode_19 rfl ?_
      refine V_bipush C dX9_freeNode_20 (by decide +kernel) ?_
      refine V_icmp_ge C 38 dX9_freeNode_22 (by decide) (by omega) (by omega) (fun z22 => ?_) (fun z22 => ?_)
      · exact absurd z22 (by first | omega | decide)
      · refine V_aload_n C dX9_freeNode_25 rfl ?_
        refine V_iload_n C dX9_freeNode_26 rfl ?_
        refine V_iload_n C dX9_freeNode_27 rfl ?_
        refine V_iconst C dX9_freeNode_28 ?_
        refine V_callVD (nA := 3) C dX9_freeNode_29 (m_puts C.gp hM (by omega) w (by omega) rfl) gX9_freeNode_X9_puts rfl o9 rfl (by decide +kernel) rfl (by decide) (by decide) (Nat.le_of_ble_eq_true rfl) ⟨by omega, by omega⟩ rfl ?_
        refine V_iinc C dX9_freeNode_32 rfl rfl (by decide) ?_
        refine V_goto C 19 dX9_freeNode_35 (by decide) ?_
        exact ih (w + 1) (by omega)
  have loop : ∀ (d : Nat) (o : Int), o + d = 32 → 0 ≤ o → fmG (ind T 0 0) 32 d = R → V X 2 [some (.ref r), some (.int (I32 o)), none] [] S n (ptT mu r T) la 0 0 := by
    intro d
    induction d with
    | zero =>
      intro o h1 h2 h3
      exact absurd h3.symm hf
    | succ d ih =>
      intro o h1 h2 h3
      have b0 := hB.n 0 (by decide) (i := o) (by omega)
      rw [fmG, show (32 : Int) - ((d : Int) + 1) = o by omega] at h3
      refine V_aload_n C dX9_freeNode_2 rfl ?_
      refine V_iload_n C dX9_freeNode_3 rfl ?_
      refine V_iconst C dX9_freeNode_4 ?_
      refine V_callVD (nA := 2) C dX9_freeNode_5 (m_of C.gp hM (by omega) 0 (by decide) rfl) gX9_freeNode_X9_of rfl o9 rfl (by decide +kernel) rfl (by decide) (by decide) (Nat.le_of_ble_eq_true rfl) ⟨by omega, by omega⟩ rfl ?_
      refine V_if_eq C 17 dX9_freeNode_8 (by decide) (by omega) (fun z8 => ?_) (fun z8 => ?_)
      · refine V_iconst C dX9_freeNode_17 ?_
        refine V_istore_n C dX9_freeNode_18 rfl (by decide) ?_
        rw [if_pos (by unfold ind; rw [if_pos (by assumption)])] at h3
        subst h3
        exact loop2 9 0 (by omega)
      · refine V_iinc C dX9_freeNode_11 rfl rfl (by decide) ?_
        refine V_goto C 2 dX9_freeNode_14 (by decide) ?_
        rw [if_neg (by unfold ind; rw [if_neg (by assumption)]; decide)] at h3
        exact ih _ (by omega) (by omega) h3
  refine V_iconst C dX9_freeNode_0 ?_
  refine V_istore_n C dX9_freeNode_1 rfl (by decide) ?_
  exact loop 32 0 (by omega) (by omega) eR
end M1
