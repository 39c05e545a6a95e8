/-! NUMBERS AS THE MACHINE KEEPS THEM: wr x is what 32 bits leave of x. -/
def wr (x : Int) : Int := (I32 x).toInt
def dv (x y : Int) : Int := (I32 x / I32 y).toInt
theorem I32_wr (x : Int) : I32 (wr x) = I32 x := I32_of _
theorem wr_b (x : Int) : -2147483648 ≤ wr x ∧ wr x ≤ 2147483647 := I32_bound _
theorem dv_b (x y : Int) : -2147483648 ≤ dv x y ∧ dv x y ≤ 2147483647 := I32_bound _
theorem wr_id {x : Int} (h : -2147483648 ≤ x ∧ x ≤ 2147483647) : wr x = x := I32_toInt h
theorem dv_id {x y : Int} (hx : 0 ≤ x ∧ x ≤ 2147483647) (hy : 0 < y ∧ y ≤ 2147483647) : dv x y = x / y := by
  have h0 : 0 ≤ x / y := Int.ediv_nonneg hx.1 (by omega)
  have h1 : x / y ≤ x := Int.ediv_le_self _ hx.1
  unfold dv
  rw [I32_div hx hy, I32_toInt (by omega)]
theorem I32_dv (x y : Int) : I32 (dv x y) = I32 x / I32 y := I32_of _
section VW
variable {X : Cx} {cc : ByteArray} {Ts : List Cond} {own : String} {ret : Option FieldType} {fr nL : Nat} {pc : Nat} {r : Rg} {st : List Value} {S : Sh} {n : Nat} {mu : Mem} {la : Lam} {k sl : Nat}
theorem V_idivR (C : Ok X cc Ts own ret fr nL) {x y : Int} (hd : decode cc pc = .ok (.idiv, 1)) (hy : -2147483648 ≤ y ∧ y ≤ 2147483647) (h0 : y ≠ 0) (kk : V X (pc + 1) r (.int (I32 (dv x y)) :: st) S n mu la k sl) : V X pc r (.int (I32 y) :: .int (I32 x) :: st) S n mu la k sl :=
  fun H locs ls hH hS hl => lv_idiv C.1 C.2.1 hd (by rw [I32_0, I32_inj hy (by omega)]; exact h0) (by rw [← I32_dv]; exact kk H locs ls hH hS hl)
theorem V_wr {x : Int} (kk : V X pc r (.int (I32 (wr x)) :: st) S n mu la k sl) : V X pc r (.int (I32 x) :: st) S n mu la k sl := by
  rw [I32_wr] at kk
  exact kk
theorem V_getJ (C : Ok X cc Ts own ret fr nL) {a ci index N : Nat} {ks : List Sk} {Cn ref : String} {T : u_T} (i : Nat) (j : Int) (hj : ((i : Nat) : Int) = j) (hd : decode cc pc = .ok (.getfield index, 3)) (hx : hasS S a (.inr (.inr (ci, ks)))) (hc : vwCl[ci]? = some (Cn, T, N)) (hin : ∀ w ∈ u_ws Cn T N, w ∈ Ts) (hi : i < N)
    (hlink : (Cond.fieldLink own index ref (T i).2.1 (T i).2.2.1) ∈ Ts) (href : (T i).1 = ref) (hks : ks[i]? = some (.inr 0)) {v : Int} (hv : mu a j = v)
    (kk : V X (pc + 3) r (.int (I32 v) :: st) S n mu la k sl) : V X pc r (.ref a :: st) S n mu la k sl := by
  subst hj; subst hv
  exact V_getI C i hd hx hc hin hi hlink href hks kk
theorem V_getNJ (C : Ok X cc Ts own ret fr nL) {a ci index N : Nat} {ks : List Sk} {Cn ref host : String} {T : u_T} (i : Nat) (j : Int) (hj : ((i : Nat) : Int) = j) (hd : decode cc pc = .ok (.getfield index, 3)) (hx : hasS S a (.inr (.inr (ci, ks)))) (hc : vwCl[ci]? = some (Cn, T, N)) (hin : ∀ w ∈ u_ws Cn T N, w ∈ Ts) (hi : i < N)
    (hlink : (Cond.fieldLinkNest own index ref (T i).2.1 (T i).2.2.1 host) ∈ nW) (href : (T i).1 = ref) (hks : ks[i]? = some (.inr 0)) {v : Int} (hv : mu a j = v)
    (kk : V X (pc + 3) r (.int (I32 v) :: st) S n mu la k sl) : V X pc r (.ref a :: st) S n mu la k sl := by
  subst hj; subst hv
  exact V_getNI C i hd hx hc hin hi hlink href hks kk
theorem V_putJ (C : Ok X cc Ts own ret fr nL) {a ci index N : Nat} {ks : List Sk} {Cn ref : String} {T : u_T} {v : Int} (i : Nat) (j : Int) (hj : ((i : Nat) : Int) = j) (hd : decode cc pc = .ok (.putfield index, 3)) (hx : hasS S a (.inr (.inr (ci, ks)))) (hc : vwCl[ci]? = some (Cn, T, N)) (hin : ∀ w ∈ u_ws Cn T N, w ∈ Ts)
    (ty0 : Nat → FieldType) (hty : ∀ k, k < N → parseFieldDescriptor (T k).2.2.1 = some (ty0 k)) (hnm : ∀ a, a < N → ∀ b, b < N → a ≠ b → (T a).2.1 ≠ (T b).2.1) (hi : i < N)
    (hlink : (Cond.fieldLink own index ref (T i).2.1 (T i).2.2.1) ∈ Ts) (href : (T i).1 = ref) (hfin : (T i).2.2.2 = false) (hds : parseFieldDescriptor (T i).2.2.1 = some .int) (hks : ks[i]? = some (.inr 0)) {mu' : Mem} (hm : up mu a j v = mu')
    (kk : V X (pc + 3) r st S n mu' la k sl) : V X pc r (.int (I32 v) :: .ref a :: st) S n mu la k sl := by
  subst hj; subst hm
  exact V_putI C i hd hx hc hin ty0 hty hnm hi hlink href hfin hds hks kk
end VW
/-! BLOCKS: w cells from c on, told by one function -/
def putK (mu : Mem) (c w : Nat) (Q : Mem) : Mem := fun a i => if c ≤ a ∧ a < c + w then Q (a - c) i else mu a i
theorem putK_k {mu Q : Mem} {c w k : Nat} (hk : k < w) (i : Int) : putK mu c w Q (c + k) i = Q k i := by
  unfold putK
  rw [if_pos (by omega), show c + k - c = k by omega]
theorem putK_0 {mu Q : Mem} {c w : Nat} (hw : 0 < w) (i : Int) : putK mu c w Q c i = Q 0 i := putK_k (k := 0) hw i
theorem up_putK {mu Q : Mem} {c w k : Nat} (hk : k < w) (i v : Int) : up (putK mu c w Q) (c + k) i v = putK mu c w (up Q k i v) := by
  funext a j
  unfold up putK
  by_cases h : a = c + k
  · subst h
    rw [if_pos (show c ≤ c + k ∧ c + k < c + w by omega), if_pos (show c ≤ c + k ∧ c + k < c + w by omega), show c + k - c = k by omega]
    simp only [true_and]
  · have e1 : ¬ (a = c + k ∧ j = i) := fun z => h z.1
    by_cases h2 : c ≤ a ∧ a < c + w
    · have e2 : ¬ (a - c = k ∧ j = i) := by omega
      simp only [if_neg e1, if_pos h2, if_neg e2]
    · simp only [if_neg e1, if_neg h2]
theorem up_putK0 {mu Q : Mem} {c w : Nat} (hw : 0 < w) (i v : Int) : up (putK mu c w Q) c i v = putK mu c w (up Q 0 i v) := up_putK (k := 0) hw i v
theorem putK_off {mu Q : Mem} {c w a : Nat} (h : a < c ∨ c + w ≤ a) (i : Int) : putK mu c w Q a i = mu a i := by
  unfold putK
  rw [if_neg (by omega)]
theorem atF_putK {mu Q : Mem} {c w k m : Nat} (hk : k < w) (i : Int) : atF (putK mu c w Q) (c + k) m i = atF Q k m i := by
  unfold atF
  rw [putK_k hk]
theorem puF_putK {mu Q : Mem} {c w k m : Nat} (hk : k < w) (i v : Int) : puF (putK mu c w Q) (c + k) m i v = putK mu c w (puF Q k m i v) := by
  unfold puF
  split
  · exact up_putK hk i v
  · rfl
theorem puF_ne {Q : Mem} {k k' m : Nat} (h : k' ≠ k) (i v j : Int) : puF Q k m i v k' j = Q k' j := by
  unfold puF
  split
  · exact up_a _ _ _ _ h
  · rfl
def R32 (P : Mem) : Prop := ∀ k i, -2147483648 ≤ P k i ∧ P k i ≤ 2147483647
theorem R32_up {P : Mem} (h : R32 P) (k : Nat) (i : Int) {v : Int} (hv : -2147483648 ≤ v ∧ v ≤ 2147483647) : R32 (up P k i v) := by
  intro a j
  unfold up
  split
  · exact hv
  · exact h a j
theorem R32_at {P : Mem} (h : R32 P) (k m : Nat) (i : Int) : -2147483648 ≤ atF P k m i ∧ atF P k m i ≤ 2147483647 := by
  unfold atF
  split
  · exact h k i
  · omega
/-- what a row of a block holds, and a row written -/
def gK (P : Mem) (k m : Nat) (i : Int) : Int := atF P k m (wr i)
def sK (P : Mem) (k m : Nat) (i v : Int) : Mem := puF P k m (wr i) (wr v)
theorem R32_gK {P : Mem} (h : R32 P) (k m : Nat) (i : Int) : -2147483648 ≤ gK P k m i ∧ gK P k m i ≤ 2147483647 := R32_at h k m _
theorem R32_sK {P : Mem} (h : R32 P) (k m : Nat) (i v : Int) : R32 (sK P k m i v) := by
  unfold sK puF
  split
  · exact R32_up h _ _ (wr_b v)
  · exact h
theorem sK_ne {Q : Mem} {k k' m : Nat} (h : k' ≠ k) (i v j : Int) : sK Q k m i v k' j = Q k' j := puF_ne h _ _ _
theorem gK_sK_ne {Q : Mem} {k k' m m' : Nat} (h : k' ≠ k) (i v j : Int) : gK (sK Q k m i v) k' m' j = gK Q k' m' j := by
  unfold gK atF
  rw [sK_ne h]
theorem gK_up_ne {Q : Mem} {k k' m' : Nat} (h : k' ≠ k) (i v j : Int) : gK (up Q k i v) k' m' j = gK Q k' m' j := by
  unfold gK atF
  rw [up_a _ _ _ _ h]
/-! A PLAN: its ints (9 nodes, 10 splits, 11 tight, 12 divider cells), eight rows (members, order, waiting, least, start, size, depth, tight), and what shares (ints 4 count, 5 needed; rows 10 least, 11 weight, 12 given, 13 free) -/
def plen : Nat → Nat
  | 1 => 528
  | 2 => 31
  | 3 => 31
  | 4 => 98
  | 5 => 98
  | 6 => 98
  | 7 => 49
  | 8 => 49
  | 10 => 16
  | 11 => 16
  | 12 => 16
  | 13 => 16
  | _ => 0
def PlanS (S : Sh) (p : Nat) : Prop :=
  hasS S p (.inr (.inr (3, [.inl (.ref (p + 1)), .inl (.ref (p + 2)), .inl (.ref (p + 3)), .inl (.ref (p + 4)), .inl (.ref (p + 5)), .inl (.ref (p + 6)), .inl (.ref (p + 7)), .inl (.ref (p + 8)), .inl (.ref (p + 9)), .inr 0, .inr 0, .inr 0, .inr 0]))) ∧
  hasS S (p + 9) (.inr (.inr (4, [.inl (.ref (p + 10)), .inl (.ref (p + 11)), .inl (.ref (p + 12)), .inl (.ref (p + 13)), .inr 0, .inr 0]))) ∧
  ∀ k, plen k ≠ 0 → hasS S (p + k) (.inl (0, plen k))
theorem plen_lt (k : Nat) : plen k < 2147483648 := by
  unfold plen; split <;> decide
theorem plen_14 {k : Nat} (h : plen k ≠ 0) : k < 14 := by
  rcases Nat.lt_or_ge k 14 with q | q
  · exact q
  · exact absurd (by unfold plen; split <;> first | omega | rfl) h
section PC
variable {G : Gx} {l : Launch} {S : Sh} {n : Nat} {mu : Mem} {la : Lam} {p : Nat} {P : Mem}
theorem c_aK (hG : GP G) (hP : PlanS S p) (k m : Nat) (hm : plen k = m) (h0 : m ≠ 0) {i : Int} :
    Ct G l yX8_at wsX8_at 0 0 0 [.ref (p + k), .int (I32 i)] S n (putK mu p 14 P) la (Dt (some (.int (I32 (gK P k m i)))) S n (putK mu p 14 P) la) := by
  subst hm
  have h := c_at (l := l) (n := n) (la := la) (mu := putK mu p 14 P) (i := wr i) hG (hP.2.2 k h0) (plen_lt k) (wr_b i)
  rw [atF_putK (plen_14 h0), I32_wr] at h
  exact h
theorem c_pK (hG : GP G) (hP : PlanS S p) (k m : Nat) (hm : plen k = m) (h0 : m ≠ 0) {i v : Int} :
    Ct G l yX8_put wsX8_put 0 0 0 [.ref (p + k), .int (I32 i), .int (I32 v)] S n (putK mu p 14 P) la (Dt none S n (putK mu p 14 (sK P k m i v)) la) := by
  subst hm
  have h := c_put (l := l) (n := n) (la := la) (mu := putK mu p 14 P) (i := wr i) (v := wr v) hG (hP.2.2 k h0) (plen_lt k) (wr_b i)
  rw [puF_putK (plen_14 h0), I32_wr, I32_wr] at h
  exact h
def shClr (P : Mem) : Mem := up (up P 9 4 0) 9 5 0
def shAdd (P : Mem) (a w : Int) : Mem := up (up (sK (sK (sK P 10 16 (P 9 4) a) 11 16 (P 9 4) w) 13 16 (P 9 4) 1) 9 5 (wr (P 9 5 + a))) 9 4 (wr (P 9 4 + 1))
theorem dX6_clear_0 : decode cX6_clear 0 = .ok (.aload_n 0, 1) := by decide +kernel
theorem dX6_clear_1 : decode cX6_clear 1 = .ok (.iconst 0, 1) := by decide +kernel
theorem dX6_clear_2 : decode cX6_clear 2 = .ok (.putfield 24, 3) := by decide +kernel
theorem dX6_clear_5 : decode cX6_clear 5 = .ok (.aload_n 0, 1) := by decide +kernel
theorem dX6_clear_6 : decode cX6_clear 6 = .ok (.iconst 0, 1) := by decide +kernel
theorem dX6_clear_7 : decode cX6_clear 7 = .ok (.putfield 28, 3) := by decide +kernel
theorem dX6_clear_10 : decode cX6_clear 10 = .ok (.return_, 1) := by decide +kernel
theorem hin_X6_clear_X6 : ∀ w ∈ wsX60, w ∈ wsX6_clear := by decide +kernel
theorem lk_X6_clear_24 : Cond.fieldLink RX6 24 RX6 "count" "I" ∈ wsX6_clear := by decide +kernel
theorem lk_X6_clear_28 : Cond.fieldLink RX6 28 RX6 "needed" "I" ∈ wsX6_clear := by decide +kernel
theorem c_shClr (hG : GP G) (hP : PlanS S p) : Ct G l yX6_clear wsX6_clear 0 0 0 [.ref (p + 9)] S n (putK mu p 14 P) la (Dt none S n (putK mu p 14 (shClr P)) la) := by
  have o6 := hP.2.1
  refine Ct.ofV (cc := cX6_clear) (nL := 1) (ret := none) [some (.ref (p + 9))] hG (by decide) rfl (Nat.le_of_ble_eq_true rfl) rfl ?_
  rintro X rfl rfl C hcl hsl E
  refine V_aload_n C dX6_clear_0 rfl ?_
  refine V_iconst C dX6_clear_1 ?_
  refine V_putJ C 4 4 rfl dX6_clear_2 o6 rfl hin_X6_clear_X6 tyX6 tyX6_ok nmX6 (by decide) lk_X6_clear_24 rfl rfl (by decide +kernel) rfl (up_putK (k := 9) (by decide) _ _) ?_
  refine V_aload_n C dX6_clear_5 rfl ?_
  refine V_iconst C dX6_clear_6 ?_
  refine V_putJ C 5 5 rfl dX6_clear_7 o6 rfl hin_X6_clear_X6 tyX6 tyX6_ok nmX6 (by decide) lk_X6_clear_28 rfl rfl (by decide +kernel) rfl (up_putK (k := 9) (by decide) _ _) ?_
  refine V_return C E dX6_clear_10 (by omega) (by omega) ?_
  exact Dt_rfl
set_option maxRecDepth 20000 in
theorem ggX6_add_X8_put : GoodIn wsX6_add wsX8_put := goodIn_r _ [8] (by decide +kernel) (by decide +kernel)
set_option maxRecDepth 20000 in
theorem gX6_add_X8_put_n31 : GoodIn wsX6_add (wsX8_put) := ggX6_add_X8_put
theorem dX6_add_0 : decode cX6_add 0 = .ok (.aload_n 0, 1) := by decide +kernel
theorem dX6_add_1 : decode cX6_add 1 = .ok (.getfield 9, 3) := by decide +kernel
theorem dX6_add_4 : decode cX6_add 4 = .ok (.aload_n 0, 1) := by decide +kernel
theorem dX6_add_5 : decode cX6_add 5 = .ok (.getfield 24, 3) := by decide +kernel
theorem dX6_add_8 : decode cX6_add 8 = .ok (.iload_n 1, 1) := by decide +kernel
theorem dX6_add_9 : decode cX6_add 9 = .ok (.invokestatic 31, 3) := by decide +kernel
theorem dX6_add_12 : decode cX6_add 12 = .ok (.aload_n 0, 1) := by decide +kernel
theorem dX6_add_13 : decode cX6_add 13 = .ok (.getfield 15, 3) := by decide +kernel
theorem dX6_add_16 : decode cX6_add 16 = .ok (.aload_n 0, 1) := by decide +kernel
theorem dX6_add_17 : decode cX6_add 17 = .ok (.getfield 24, 3) := by decide +kernel
theorem dX6_add_20 : decode cX6_add 20 = .ok (.iload_n 2, 1) := by decide +kernel
theorem dX6_add_21 : decode cX6_add 21 = .ok (.invokestatic 31, 3) := by decide +kernel
theorem dX6_add_24 : decode cX6_add 24 = .ok (.aload_n 0, 1) := by decide +kernel
theorem dX6_add_25 : decode cX6_add 25 = .ok (.getfield 21, 3) := by decide +kernel
theorem dX6_add_28 : decode cX6_add 28 = .ok (.aload_n 0, 1) := by decide +kernel
theorem dX6_add_29 : decode cX6_add 29 = .ok (.getfield 24, 3) := by decide +kernel
theorem dX6_add_32 : decode cX6_add 32 = .ok (.iconst 1, 1) := by decide +kernel
theorem dX6_add_33 : decode cX6_add 33 = .ok (.invokestatic 31, 3) := by decide +kernel
theorem dX6_add_36 : decode cX6_add 36 = .ok (.aload_n 0, 1) := by decide +kernel
theorem dX6_add_37 : decode cX6_add 37 = .ok (.dup, 1) := by decide +kernel
theorem dX6_add_38 : decode cX6_add 38 = .ok (.getfield 28, 3) := by decide +kernel
theorem dX6_add_41 : decode cX6_add 41 = .ok (.iload_n 1, 1) := by decide +kernel
theorem dX6_add_42 : decode cX6_add 42 = .ok (.iadd, 1) := by decide +kernel
theorem dX6_add_43 : decode cX6_add 43 = .ok (.putfield 28, 3) := by decide +kernel
theorem dX6_add_46 : decode cX6_add 46 = .ok (.aload_n 0, 1) := by decide +kernel
theorem dX6_add_47 : decode cX6_add 47 = .ok (.dup, 1) := by decide +kernel
theorem dX6_add_48 : decode cX6_add 48 = .ok (.getfield 24, 3) := by decide +kernel
theorem dX6_add_51 : decode cX6_add 51 = .ok (.iconst 1, 1) := by decide +kernel
theorem dX6_add_52 : decode cX6_add 52 = .ok (.iadd, 1) := by decide +kernel
theorem dX6_add_53 : decode cX6_add 53 = .ok (.putfield 24, 3) := by decide +kernel
theorem dX6_add_56 : decode cX6_add 56 = .ok (.return_, 1) := by decide +kernel
theorem hin_X6_add_X6 : ∀ w ∈ wsX60, w ∈ wsX6_add := by decide +kernel
theorem lk_X6_add_9 : Cond.fieldLink RX6 9 RX6 "least" "[I" ∈ wsX6_add := by decide +kernel
theorem lk_X6_add_24 : Cond.fieldLink RX6 24 RX6 "count" "I" ∈ wsX6_add := by decide +kernel
theorem lk_X6_add_15 : Cond.fieldLink RX6 15 RX6 "weight" "[I" ∈ wsX6_add := by decide +kernel
theorem lk_X6_add_21 : Cond.fieldLink RX6 21 RX6 "free" "[I" ∈ wsX6_add := by decide +kernel
theorem lk_X6_add_28 : Cond.fieldLink RX6 28 RX6 "needed" "I" ∈ wsX6_add := by decide +kernel
theorem c_shAdd (hG : GP G) (hP : PlanS S p) {a w : Int} : Ct G l yX6_add wsX6_add 1 0 0 [.ref (p + 9), .int (I32 a), .int (I32 w)] S n (putK mu p 14 P) la (Dt none S n (putK mu p 14 (shAdd P a w)) la) := by
  have o6 := hP.2.1
  refine Ct.ofV (cc := cX6_add) (nL := 3) (ret := none) [some (.ref (p + 9)), some (.int (I32 a)), some (.int (I32 w))] hG (by decide) rfl (Nat.le_of_ble_eq_true rfl) rfl ?_
  rintro X rfl rfl C hcl hsl E
  refine V_aload_n C dX6_add_0 rfl ?_
  refine V_getR C 0 dX6_add_1 o6 rfl hin_X6_add_X6 (by decide) lk_X6_add_9 rfl rfl ?_
  refine V_aload_n C dX6_add_4 rfl ?_
  refine V_getJ C 4 4 rfl dX6_add_5 o6 rfl hin_X6_add_X6 (by decide) lk_X6_add_24 rfl rfl (putK_k (k := 9) (by decide) _) ?_
  refine V_iload_n C dX6_add_8 rfl ?_
  refine V_callSND (nA := 3) (host := "DockTree") C dX6_add_9 (c_pK C.gp hP 10 16 rfl (by decide)) gX6_add_X8_put_n31 (by decide +kernel) (by decide +kernel) (by decide +kernel) rfl (by decide +kernel) rfl (by decide) (by decide) (Nat.le_of_ble_eq_true rfl) ⟨by omega, by omega⟩ rfl ?_
  refine V_aload_n C dX6_add_12 rfl ?_
  refine V_getR C 1 dX6_add_13 o6 rfl hin_X6_add_X6 (by decide) lk_X6_add_15 rfl rfl ?_
  refine V_aload_n C dX6_add_16 rfl ?_
  refine V_getJ C 4 4 rfl dX6_add_17 o6 rfl hin_X6_add_X6 (by decide) lk_X6_add_24 rfl rfl (putK_k (k := 9) (by decide) _) ?_
  refine V_iload_n C dX6_add_20 rfl ?_
  rw [sK_ne (by decide)]
  refine V_callSND (nA := 3) (host := "DockTree") C dX6_add_21 (c_pK C.gp hP 11 16 rfl (by decide)) gX6_add_X8_put_n31 (by decide +kernel) (by decide +kernel) (by decide +kernel) rfl (by decide +kernel) rfl (by decide) (by decide) (Nat.le_of_ble_eq_true rfl) ⟨by omega, by omega⟩ rfl ?_
  refine V_aload_n C dX6_add_24 rfl ?_
  refine V_getR C 3 dX6_add_25 o6 rfl hin_X6_add_X6 (by decide) lk_X6_add_21 rfl rfl ?_
  refine V_aload_n C dX6_add_28 rfl ?_
  refine V_getJ C 4 4 rfl dX6_add_29 o6 rfl hin_X6_add_X6 (by decide) lk_X6_add_24 rfl rfl (putK_k (k := 9) (by decide) _) ?_
  refine V_iconst C dX6_add_32 ?_
  rw [sK_ne (by decide), sK_ne (by decide)]
  refine V_callSND (nA := 3) (host := "DockTree") C dX6_add_33 (c_pK C.gp hP 13 16 rfl (by decide)) gX6_add_X8_put_n31 (by decide +kernel) (by decide +kernel) (by decide +kernel) rfl (by decide +kernel) rfl (by decide) (by decide) (Nat.le_of_ble_eq_true rfl) ⟨by omega, by omega⟩ rfl ?_
  refine V_aload_n C dX6_add_36 rfl ?_
  refine V_dup C dX6_add_37 rfl ?_
  refine V_getJ C 5 5 rfl dX6_add_38 o6 rfl hin_X6_add_X6 (by decide) lk_X6_add_28 rfl rfl (putK_k (k := 9) (by decide) _) ?_
  refine V_iload_n C dX6_add_41 rfl ?_
  refine V_iadd C dX6_add_42 ?_
  rw [sK_ne (by decide), sK_ne (by decide), sK_ne (by decide)]
  refine V_wr ?_
  refine V_putJ C 5 5 rfl dX6_add_43 o6 rfl hin_X6_add_X6 tyX6 tyX6_ok nmX6 (by decide) lk_X6_add_28 rfl rfl (by decide +kernel) rfl (up_putK (k := 9) (by decide) _ _) ?_
  refine V_aload_n C dX6_add_46 rfl ?_
  refine V_dup C dX6_add_47 rfl ?_
  refine V_getJ C 4 4 rfl dX6_add_48 o6 rfl hin_X6_add_X6 (by decide) lk_X6_add_24 rfl rfl (putK_k (k := 9) (by decide) _) ?_
  refine V_iconst C dX6_add_51 ?_
  refine V_iadd C dX6_add_52 ?_
  rw [up_i _ _ _ (by decide), sK_ne (by decide), sK_ne (by decide), sK_ne (by decide)]
  refine V_wr ?_
  refine V_putJ C 4 4 rfl dX6_add_53 o6 rfl hin_X6_add_X6 tyX6 tyX6_ok nmX6 (by decide) lk_X6_add_24 rfl rfl (by decide +kernel) rfl (up_putK (k := 9) (by decide) _ _) ?_
  refine V_return C E dX6_add_56 (by omega) (by omega) ?_
  exact Dt_rfl
theorem dX6_needed_0 : decode cX6_needed 0 = .ok (.aload_n 0, 1) := by decide +kernel
theorem dX6_needed_1 : decode cX6_needed 1 = .ok (.getfield 28, 3) := by decide +kernel
theorem dX6_needed_4 : decode cX6_needed 4 = .ok (.ireturn, 1) := by decide +kernel
theorem hin_X6_needed_X6 : ∀ w ∈ wsX60, w ∈ wsX6_needed := by decide +kernel
theorem lk_X6_needed_28 : Cond.fieldLink RX6 28 RX6 "needed" "I" ∈ wsX6_needed := by decide +kernel
theorem c_shNeeded (hG : GP G) (hP : PlanS S p) : Ct G l yX6_needed wsX6_needed 0 0 0 [.ref (p + 9)] S n (putK mu p 14 P) la (Dt (some (.int (I32 (P 9 5)))) S n (putK mu p 14 P) la) := by
  have o6 := hP.2.1
  refine Ct.ofV (cc := cX6_needed) (nL := 1) (ret := (some .int)) [some (.ref (p + 9))] hG (by decide) rfl (Nat.le_of_ble_eq_true rfl) rfl ?_
  rintro X rfl rfl C hcl hsl E
  refine V_aload_n C dX6_needed_0 rfl ?_
  refine V_getJ C 5 5 rfl dX6_needed_1 o6 rfl hin_X6_needed_X6 (by decide) lk_X6_needed_28 rfl rfl (putK_k (k := 9) (by decide) _) ?_
  refine V_ireturn C E dX6_needed_4 (by omega) (by omega) ?_
  exact Dt_rfl
set_option maxRecDepth 20000 in
theorem ggX6_givenTo_X8_at : GoodIn wsX6_givenTo wsX8_at := goodIn_r _ [4] (by decide +kernel) (by decide +kernel)
set_option maxRecDepth 20000 in
theorem gX6_givenTo_X8_at_n35 : GoodIn wsX6_givenTo (wsX8_at) := ggX6_givenTo_X8_at
theorem dX6_givenTo_0 : decode cX6_givenTo 0 = .ok (.aload_n 0, 1) := by decide +kernel
theorem dX6_givenTo_1 : decode cX6_givenTo 1 = .ok (.getfield 18, 3) := by decide +kernel
theorem dX6_givenTo_4 : decode cX6_givenTo 4 = .ok (.iload_n 1, 1) := by decide +kernel
theorem dX6_givenTo_5 : decode cX6_givenTo 5 = .ok (.invokestatic 35, 3) := by decide +kernel
theorem dX6_givenTo_8 : decode cX6_givenTo 8 = .ok (.ireturn, 1) := by decide +kernel
theorem hin_X6_givenTo_X6 : ∀ w ∈ wsX60, w ∈ wsX6_givenTo := by decide +kernel
theorem lk_X6_givenTo_18 : Cond.fieldLink RX6 18 RX6 "given" "[I" ∈ wsX6_givenTo := by decide +kernel
theorem c_givenTo (hG : GP G) (hP : PlanS S p) {i : Int} : Ct G l yX6_givenTo wsX6_givenTo 1 0 0 [.ref (p + 9), .int (I32 i)] S n (putK mu p 14 P) la (Dt (some (.int (I32 (gK P 12 16 i)))) S n (putK mu p 14 P) la) := by
  have o6 := hP.2.1
  refine Ct.ofV (cc := cX6_givenTo) (nL := 2) (ret := (some .int)) [some (.ref (p + 9)), some (.int (I32 i))] hG (by decide) rfl (Nat.le_of_ble_eq_true rfl) rfl ?_
  rintro X rfl rfl C hcl hsl E
  refine V_aload_n C dX6_givenTo_0 rfl ?_
  refine V_getR C 2 dX6_givenTo_1 o6 rfl hin_X6_givenTo_X6 (by decide) lk_X6_givenTo_18 rfl rfl ?_
  refine V_iload_n C dX6_givenTo_4 rfl ?_
  refine V_callSND (nA := 2) (host := "DockTree") C dX6_givenTo_5 (c_aK C.gp hP 12 16 rfl (by decide)) gX6_givenTo_X8_at_n35 (by decide +kernel) (by decide +kernel) (by decide +kernel) rfl (by decide +kernel) rfl (by decide) (by decide) (Nat.le_of_ble_eq_true rfl) ⟨by omega, by omega⟩ rfl ?_
  refine V_ireturn C E dX6_givenTo_8 (by omega) (by omega) ?_
  exact Dt_rfl
/-- the cells that are left, one each -/
def hoG (P : Mem) (c : Int) : Nat → Mem × Int
  | 0 => (P, c)
  | j + 1 => if 0 < (hoG P c j).2 ∧ gK (hoG P c j).1 13 16 j = 1 then (sK (hoG P c j).1 12 16 j (gK (hoG P c j).1 12 16 j + 1), (hoG P c j).2 - 1) else hoG P c j
def hoF (P : Mem) (c : Int) : Mem := (hoG P c (P 9 4).toNat).1
theorem hoG_9 (P : Mem) (c : Int) (i : Int) : ∀ j, (hoG P c j).1 9 i = P 9 i
  | 0 => rfl
  | j + 1 => by
    rw [hoG]
    split
    · show sK _ 12 16 _ _ 9 i = _
      rw [sK_ne (by decide)]; exact hoG_9 P c i j
    · exact hoG_9 P c i j
theorem hoG_R {P : Mem} (h : R32 P) (c : Int) : ∀ j, R32 (hoG P c j).1
  | 0 => h
  | j + 1 => by
    rw [hoG]
    split
    · exact R32_sK (hoG_R h c j) _ _ _ _
    · exact hoG_R h c j
theorem hoG_b (P : Mem) {c : Int} (h : -2147483648 ≤ c ∧ c ≤ 2147483647) : ∀ j, -2147483648 ≤ (hoG P c j).2 ∧ (hoG P c j).2 ≤ 2147483647
  | 0 => h
  | j + 1 => by
    have := hoG_b P h j
    rw [hoG]
    split
    · simp only; omega
    · exact this
theorem hoG_end (P : Mem) (c : Int) {j : Nat} (h : (hoG P c j).2 ≤ 0) : ∀ m, hoG P c (j + m) = hoG P c j
  | 0 => rfl
  | m + 1 => by
    rw [← Nat.add_assoc, hoG, hoG_end P c h m, if_neg (by omega)]
set_option maxRecDepth 20000 in
theorem ggX6_handOut_X8_at : GoodIn wsX6_handOut wsX8_at := goodIn_r _ [6] (by decide +kernel) (by decide +kernel)
set_option maxRecDepth 20000 in
theorem gX6_handOut_X8_at_n35 : GoodIn wsX6_handOut (wsX8_at) := ggX6_handOut_X8_at
set_option maxRecDepth 20000 in
theorem ggX6_handOut_X8_put : GoodIn wsX6_handOut wsX8_put := goodIn_r _ [8] (by decide +kernel) (by decide +kernel)
set_option maxRecDepth 20000 in
theorem gX6_handOut_X8_put_n31 : GoodIn wsX6_handOut (wsX8_put) := ggX6_handOut_X8_put
theorem dX6_handOut_0 : decode cX6_handOut 0 = .ok (.iload_n 1, 1) := by decide +kernel
theorem dX6_handOut_1 : decode cX6_handOut 1 = .ok (.istore_n 2, 1) := by decide +kernel
theorem dX6_handOut_2 : decode cX6_handOut 2 = .ok (.iconst 0, 1) := by decide +kernel
theorem dX6_handOut_3 : decode cX6_handOut 3 = .ok (.istore_n 3, 1) := by decide +kernel
theorem dX6_handOut_4 : decode cX6_handOut 4 = .ok (.iload_n 3, 1) := by decide +kernel
theorem dX6_handOut_5 : decode cX6_handOut 5 = .ok (.aload_n 0, 1) := by decide +kernel
theorem dX6_handOut_6 : decode cX6_handOut 6 = .ok (.getfield 24, 3) := by decide +kernel
theorem dX6_handOut_9 : decode cX6_handOut 9 = .ok (.if_icmp .ge 46, 3) := by decide +kernel
theorem dX6_handOut_12 : decode cX6_handOut 12 = .ok (.iload_n 2, 1) := by decide +kernel
theorem dX6_handOut_13 : decode cX6_handOut 13 = .ok (.ifCond .le 42, 3) := by decide +kernel
theorem dX6_handOut_16 : decode cX6_handOut 16 = .ok (.aload_n 0, 1) := by decide +kernel
theorem dX6_handOut_17 : decode cX6_handOut 17 = .ok (.getfield 21, 3) := by decide +kernel
theorem dX6_handOut_20 : decode cX6_handOut 20 = .ok (.iload_n 3, 1) := by decide +kernel
theorem dX6_handOut_21 : decode cX6_handOut 21 = .ok (.invokestatic 35, 3) := by decide +kernel
theorem dX6_handOut_24 : decode cX6_handOut 24 = .ok (.iconst 1, 1) := by decide +kernel
theorem dX6_handOut_25 : decode cX6_handOut 25 = .ok (.if_icmp .ne 24, 3) := by decide +kernel
theorem dX6_handOut_28 : decode cX6_handOut 28 = .ok (.aload_n 0, 1) := by decide +kernel
theorem dX6_handOut_29 : decode cX6_handOut 29 = .ok (.getfield 18, 3) := by decide +kernel
theorem dX6_handOut_32 : decode cX6_handOut 32 = .ok (.iload_n 3, 1) := by decide +kernel
theorem dX6_handOut_33 : decode cX6_handOut 33 = .ok (.aload_n 0, 1) := by decide +kernel
theorem dX6_handOut_34 : decode cX6_handOut 34 = .ok (.getfield 18, 3) := by decide +kernel
theorem dX6_handOut_37 : decode cX6_handOut 37 = .ok (.iload_n 3, 1) := by decide +kernel
theorem dX6_handOut_38 : decode cX6_handOut 38 = .ok (.invokestatic 35, 3) := by decide +kernel
theorem dX6_handOut_41 : decode cX6_handOut 41 = .ok (.iconst 1, 1) := by decide +kernel
theorem dX6_handOut_42 : decode cX6_handOut 42 = .ok (.iadd, 1) := by decide +kernel
theorem dX6_handOut_43 : decode cX6_handOut 43 = .ok (.invokestatic 31, 3) := by decide +kernel
theorem dX6_handOut_46 : decode cX6_handOut 46 = .ok (.iinc 2 (-1), 3) := by decide +kernel
theorem dX6_handOut_49 : decode cX6_handOut 49 = .ok (.iinc 3 1, 3) := by decide +kernel
theorem dX6_handOut_52 : decode cX6_handOut 52 = .ok (.goto (-48), 3) := by decide +kernel
theorem dX6_handOut_55 : decode cX6_handOut 55 = .ok (.return_, 1) := by decide +kernel
theorem hin_X6_handOut_X6 : ∀ w ∈ wsX60, w ∈ wsX6_handOut := by decide +kernel
theorem lk_X6_handOut_24 : Cond.fieldLink RX6 24 RX6 "count" "I" ∈ wsX6_handOut := by decide +kernel
theorem lk_X6_handOut_21 : Cond.fieldLink RX6 21 RX6 "free" "[I" ∈ wsX6_handOut := by decide +kernel
theorem lk_X6_handOut_18 : Cond.fieldLink RX6 18 RX6 "given" "[I" ∈ wsX6_handOut := by decide +kernel
theorem c_handOut (hG : GP G) (hP : PlanS S p) (hR : R32 P) {c : Int} (hc : -2147483648 ≤ c ∧ c ≤ 2147483647) : Ct G l yX6_handOut wsX6_handOut 1 0 0 [.ref (p + 9), .int (I32 c)] S n (putK mu p 14 P) la (Dt none S n (putK mu p 14 (hoF P c)) la) := by
  have o6 := hP.2.1
  have b94 := hR 9 4
  refine Ct.ofV (cc := cX6_handOut) (nL := 4) (ret := none) [some (.ref (p + 9)), some (.int (I32 c)), none, none] hG (by decide) rfl (Nat.le_of_ble_eq_true rfl) rfl ?_
  rintro X rfl rfl C hcl hsl E
  have loop : ∀ (m j : Nat), j + m = (P 9 4).toNat → V X 4 [some (.ref (p + 9)), some (.int (I32 c)), some (.int (I32 (hoG P c j).2)), some (.int (I32 (j : Int)))] [] S n (putK mu p 14 (hoG P c j).1) la 0 0 := by
    intro m
    induction m with
    | zero =>
      intro j hj
      have e : j = (P 9 4).toNat := by omega
      refine V_iload_n C dX6_handOut_4 rfl ?_
      refine V_aload_n C dX6_handOut_5 rfl ?_
      refine V_getJ C 4 4 rfl dX6_handOut_6 o6 rfl hin_X6_handOut_X6 (by decide) lk_X6_handOut_24 rfl rfl (putK_k (k := 9) (by decide) _) ?_
      rw [hoG_9]
      refine V_icmp_ge C 55 dX6_handOut_9 (by decide) (by omega) (by omega) (fun q => ?_) (fun q => ?_)
      · refine V_return C E dX6_handOut_55 (by omega) (by omega) ?_
        rw [hoF, ← e]; exact Dt_rfl
      · exact absurd q (by omega)
    | succ m ih =>
      intro j hj
      have bl := hoG_b P hc j
      have b1 := R32_gK (hoG_R hR c j) 13 16 j
      have b2 := R32_gK (hoG_R hR c j) 12 16 j
      have hn : ((j + 1 : Nat) : Int) = (j : Int) + 1 := by omega
      refine V_iload_n C dX6_handOut_4 rfl ?_
      refine V_aload_n C dX6_handOut_5 rfl ?_
      refine V_getJ C 4 4 rfl dX6_handOut_6 o6 rfl hin_X6_handOut_X6 (by decide) lk_X6_handOut_24 rfl rfl (putK_k (k := 9) (by decide) _) ?_
      rw [hoG_9]
      refine V_icmp_ge C 55 dX6_handOut_9 (by decide) (by omega) (by omega) (fun q => ?_) (fun q => ?_)
      · exact absurd q (by omega)
      · refine V_iload_n C dX6_handOut_12 rfl ?_
        refine V_if_le C 55 dX6_handOut_13 (by decide) (by omega) (fun q2 => ?_) (fun q2 => ?_)
        · refine V_return C E dX6_handOut_55 (by omega) (by omega) ?_
          rw [hoF, show (P 9 4).toNat = j + (m + 1) by omega, hoG_end P c q2]; exact Dt_rfl
        · refine V_aload_n C dX6_handOut_16 rfl ?_
          refine V_getR C 3 dX6_handOut_17 o6 rfl hin_X6_handOut_X6 (by decide) lk_X6_handOut_21 rfl rfl ?_
          refine V_iload_n C dX6_handOut_20 rfl ?_
          refine V_callSND (nA := 2) (host := "DockTree") C dX6_handOut_21 (c_aK C.gp hP 13 16 rfl (by decide)) gX6_handOut_X8_at_n35 (by decide +kernel) (by decide +kernel) (by decide +kernel) rfl (by decide +kernel) rfl (by decide) (by decide) (Nat.le_of_ble_eq_true rfl) ⟨by omega, by omega⟩ rfl ?_
          refine V_iconst C dX6_handOut_24 ?_
          refine V_icmp_ne C 49 dX6_handOut_25 (by decide) (by omega) (by omega) (fun q3 => ?_) (fun q3 => ?_)
          · have h9 := ih (j + 1) (by omega)
            rw [hoG, if_neg (fun z => q3 z.2), hn] at h9
            refine V_iinc C dX6_handOut_49 rfl rfl (by decide) ?_
            refine V_goto C 4 dX6_handOut_52 (by decide) ?_
            exact h9
          · have h9 := ih (j + 1) (by omega)
            rw [hoG, if_pos ⟨q2, q3⟩, hn] at h9
            refine V_aload_n C dX6_handOut_28 rfl ?_
            refine V_getR C 2 dX6_handOut_29 o6 rfl hin_X6_handOut_X6 (by decide) lk_X6_handOut_18 rfl rfl ?_
            refine V_iload_n C dX6_handOut_32 rfl ?_
            refine V_aload_n C dX6_handOut_33 rfl ?_
            refine V_getR C 2 dX6_handOut_34 o6 rfl hin_X6_handOut_X6 (by decide) lk_X6_handOut_18 rfl rfl ?_
            refine V_iload_n C dX6_handOut_37 rfl ?_
            refine V_callSND (nA := 2) (host := "DockTree") C dX6_handOut_38 (c_aK C.gp hP 12 16 rfl (by decide)) gX6_handOut_X8_at_n35 (by decide +kernel) (by decide +kernel) (by decide +kernel) rfl (by decide +kernel) rfl (by decide) (by decide) (Nat.le_of_ble_eq_true rfl) ⟨by omega, by omega⟩ rfl ?_
            refine V_iconst C dX6_handOut_41 ?_
            refine V_iadd C dX6_handOut_42 ?_
            refine V_callSND (nA := 3) (host := "DockTree") C dX6_handOut_43 (c_pK C.gp hP 12 16 rfl (by decide)) gX6_handOut_X8_put_n31 (by decide +kernel) (by decide +kernel) (by decide +kernel) rfl (by decide +kernel) rfl (by decide) (by decide) (Nat.le_of_ble_eq_true rfl) ⟨by omega, by omega⟩ rfl ?_
            refine V_iinc C dX6_handOut_46 rfl rfl (by decide) ?_
            refine V_iinc C dX6_handOut_49 rfl rfl (by decide) ?_
            refine V_goto C 4 dX6_handOut_52 (by decide) ?_
            exact h9
  refine V_iload_n C dX6_handOut_0 rfl ?_
  refine V_istore_n C dX6_handOut_1 rfl (by decide) ?_
  refine V_iconst C dX6_handOut_2 ?_
  refine V_istore_n C dX6_handOut_3 rfl (by decide) ?_
  exact loop (P 9 4).toNat 0 (by omega)
end PC
