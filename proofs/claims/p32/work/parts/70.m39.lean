/-! THE REFERENCE'S PAST -/
theorem enM_off {m : Mem} {r x : Nat} {i : Int} (h2 : x ≠ r + 2) (hr : ¬ (x = r ∧ (i = 4 ∨ i = 7))) : enM m r x i = m x i := by
  have e1 : en1 m r x i = m x i := by
    unfold en1
    split
    · rw [up_e, if_neg (by omega)]
      show (if _ then _ else _) = _
      rw [if_neg (by omega)]
    · rfl
  unfold enM en2
  rw [up_e, if_neg (by omega), up_e, if_neg (by omega)]
  show (if _ then _ else _) = _
  rw [if_neg (by omega)]
  exact e1
theorem en1_4 {m : Mem} {r : Nat} (h4 : 0 ≤ m r 4 ∧ m r 4 ≤ 4) : en1 m r r 4 = min (m r 4) 3 := by
  unfold en1
  by_cases z : m r 4 = 4
  · rw [if_pos z, up_e, if_pos ⟨rfl, rfl⟩]; omega
  · rw [if_neg z]; omega
theorem enM_4 {m : Mem} {r : Nat} (h4 : 0 ≤ m r 4 ∧ m r 4 ≤ 4) : enM m r r 4 = min (m r 4 + 1) 4 ∧ enM m r r 7 = 0 := by
  unfold enM en2
  refine ⟨?_, by rw [up_e, if_pos ⟨rfl, rfl⟩]⟩
  rw [up_e, if_neg (by omega), up_e, if_pos ⟨rfl, rfl⟩, en1_4 h4]
  omega
theorem enM_2 {m : Mem} {r : Nat} {s : Int → Int} (h4 : 0 ≤ m r 4 ∧ m r 4 ≤ 4) (hs : ∀ i : Int, 0 ≤ i → i < 1639 → m (r + 3) i = s i) {i : Int} (i1 : 0 ≤ i) (i2 : i < 1639 * min (m r 4 + 1) 4) : enM m r (r + 2) i = pushP (m (r + 2)) s (m r 4) i := by
  have e3 : ∀ j : Int, en1 m r (r + 3) j = m (r + 3) j := fun j => by
    unfold en1
    split
    · rw [up_e, if_neg (by omega)]
      show (if _ then _ else _) = _
      rw [if_neg (by omega)]
    · rfl
  have e2 : ∀ j : Int, 0 ≤ j → en1 m r (r + 2) j = if m r 4 = 4 ∧ j < 4917 then m (r + 2) (j + 1639) else m (r + 2) j := fun j hj => by
    unfold en1
    by_cases z : m r 4 = 4
    · rw [if_pos z, up_e, if_neg (by omega)]
      show (if _ then _ else _) = _
      by_cases y : j < 4917
      · rw [if_pos ⟨rfl, hj, y⟩, if_pos ⟨z, y⟩]
      · rw [if_neg (by omega), if_neg (by omega)]
    · rw [if_neg z, if_neg (by omega)]
  unfold enM en2
  rw [up_e, if_neg (by omega), up_e, if_neg (by omega)]
  show (if _ then _ else _) = _
  rw [en1_4 h4, e3, e2 i i1]
  unfold pushP
  by_cases z : m r 4 = 4
  · rw [z, if_pos rfl]
    by_cases y : i < 4917
    · rw [if_neg (by omega), if_pos ⟨rfl, y⟩, if_pos y]
    · rw [if_pos ⟨rfl, by omega, by omega⟩, if_neg y, hs _ (by omega) (by omega)]
      congr 1
  · rw [if_neg z]
    by_cases y : 1639 * m r 4 ≤ i
    · rw [if_pos ⟨rfl, by omega, by omega⟩, if_pos y, hs _ (by omega) (by omega)]
      congr 1
      omega
    · rw [if_neg (by omega), if_neg (by omega), if_neg y]
theorem R32_enM {m : Mem} (R : R32 m) {r : Nat} (h4 : 0 ≤ m r 4 ∧ m r 4 ≤ 4) : R32 (enM m r) := by
  have R1 : R32 (en1 m r) := by
    unfold en1
    split
    · refine R32_up (fun x i => ?_) _ _ (by omega)
      unfold shP
      split <;> exact R _ _
    · exact R
  have e4 := en1_4 h4
  unfold enM en2
  refine R32_up (R32_up (fun x i => ?_) _ _ (by omega)) _ _ (by omega)
  unfold pcP
  split <;> exact R1 _ _
/-- the class has done its part: then the reference does its own -/
theorem Inv.fin {N : Int} {mu1 m : Mem} {c h t p b q r : Nat} {s' past s tx : Int → Int} {np nt : Int} (O : Od c h t p b q r) (A : CR N mu1 c h t p b s' (pushP past s np) tx (min (np + 1) 4) nt) (hnp : 0 ≤ np ∧ np ≤ 4)
    (e0 : ∀ (x : Nat) (i : Int), x < r → m x i = mu1 x i) (e1 : ∀ i : Int, 0 ≤ i → i < 1639 → m (r + 1) i = s' i) (e2 : ∀ i : Int, 0 ≤ i → m (r + 2) i = past i) (e3 : ∀ i : Int, 0 ≤ i → i < 1639 → m (r + 3) i = s i) (e4 : m r 4 = np) (e5 : ∀ i : Int, 0 ≤ i → i < nt → m (r + 5) i = tx i) (e6 : m r 6 = nt) (R : R32 m) :
    Inv N (enM m r) c h t p b r ∧ enM m r r 7 = 0 := by
  subst e4 e6
  obtain ⟨n4, n7⟩ := enM_4 hnp
  refine ⟨⟨?_, R32_enM R hnp⟩, n7⟩
  rw [n4, enM_off (i := 6) (by omega) (by omega)]
  refine A.off O (fun x i hx => ?_) (fun i h1 h2 => ?_) (fun i h1 h2 => ?_) (fun i h1 h2 => ?_)
  · rw [enM_off (by omega) (by omega)]; exact e0 x i hx
  · rw [enM_off (by omega) (by omega)]; exact e1 i h1 h2
  · rw [enM_2 hnp e3 h1 h2]
    unfold pushP
    have := e2 i h1
    have := e2 (i + 1639) (by omega)
    split
    · split
      · assumption
      · rfl
    · split
      · rfl
      · assumption
  · rw [enM_off (by omega) (by omega)]; exact e5 i h1 h2
/-- the reference finds a fault: all stays -/
theorem Inv.bad {N : Int} {mu m : Mem} {c h t p b q r : Nat} (O : Od c h t p b q r) (A : Inv N mu c h t p b r) (e0 : ∀ (x : Nat) (i : Int), x ≠ r + 3 → ¬ (x = r ∧ (i = 7 ∨ 8 ≤ i)) → m x i = mu x i) (R : R32 m) : Inv N m c h t p b r := by
  obtain ⟨A, -⟩ := A
  refine ⟨?_, R⟩
  rw [e0 r 4 (by omega) (by omega), e0 r 6 (by omega) (by omega)]
  refine A.off O (fun x i hx => ?_) (fun i h1 h2 => ?_) (fun i h1 h2 => ?_) (fun i h1 h2 => ?_)
  · exact e0 x i (by omega) (by omega)
  · exact e0 _ i (by omega) (by omega)
  · exact e0 _ i (by omega) (by omega)
  · exact e0 _ i (by omega) (by omega)
theorem hdM_3 (mu : Mem) (r : Nat) {i : Int} (h : 0 ≤ i ∧ i < 1639) : hdM mu r (r + 3) i = mu (r + 1) i := by
  show (if _ then _ else _) = _
  rw [if_pos ⟨rfl, h.1, h.2⟩]
theorem hdM_x (mu : Mem) (r : Nat) {x : Nat} (hx : x ≠ r + 3) (i : Int) : hdM mu r x i = mu x i := by
  show (if _ then _ else _) = _
  rw [if_neg (by omega)]
/-- the tree written into the row -/
def ptS (s : Int → Int) (T : Mem) : Int → Int := fun j => if 35 ≤ j ∧ j < 355 then (if j < 323 then T ((j - 35) % 9).toNat ((j - 35) / 9) else if (j - 323) % 2 = 0 then T 9 ((j - 323) / 2) else T 10 ((j - 323) / 2)) else s j
theorem ptT_1 (m : Mem) (r : Nat) (T : Mem) (j : Int) : ptT m r T (r + 1) j = ptS (m (r + 1)) T j := by
  unfold ptT ptS
  by_cases z : 35 ≤ j ∧ j < 355
  · rw [if_pos ⟨rfl, z⟩, if_pos z]
  · rw [if_neg (by omega), if_neg z]
theorem ptT_x (m : Mem) (r : Nat) (T : Mem) {x : Nat} (hx : x ≠ r + 1) (j : Int) : ptT m r T x j = m x j := if_neg (by omega)
theorem ptS_x (s : Int → Int) (T : Mem) {j : Int} (hj : j < 35 ∨ 355 ≤ j) : ptS s T j = s j := if_neg (by omega)
theorem trS_ptS (s : Int → Int) (T : Mem) : EqT T (trS (ptS s T) 35) := by
  intro w i hw h1 h2
  unfold trS ptS
  by_cases z : w ≤ 8
  · rw [if_pos z] at h2
    rw [if_pos z, if_pos (by omega), if_pos (by omega), show (35 + 9 * i + (w : Int) - 35) % 9 = (w : Int) by omega, show (35 + 9 * i + (w : Int) - 35) / 9 = i by omega]
    rfl
  · rw [if_neg z] at h2
    rw [if_neg z]
    have : w = 9 ∨ w = 10 := by omega
    rcases this with rfl | rfl
    · rw [if_pos rfl, if_pos (by omega), if_neg (by omega), if_pos (by omega), show (35 + 288 + 2 * i - 323) / 2 = i by omega]
    · rw [if_neg (by omega), if_pos (by omega), if_neg (by omega), if_neg (by omega), show (35 + 288 + 2 * i + 1 - 323) / 2 = i by omega]
theorem TB.pt {N : Int} {T : Mem} (B : TB N T) (s : Int → Int) : TB N (trS (ptS s T) 35) := by
  have e := trS_ptS s T
  refine B.c e fun w i hw hi => ?_
  rw [trS_hi _ _ hw]
  have hi' : 0 ≤ i ∧ i < 16 := by unfold Tin at hi; rw [if_neg (by omega)] at hi; exact hi
  rw [e 10 i (by omega) hi'.1 (by rw [if_neg (by omega)]; exact hi'.2)]
  exact B.1 10 i ⟨hi'.1, by rw [if_neg (by omega)]; exact hi'.2⟩
theorem R32_ptT {m : Mem} (R : R32 m) {r : Nat} {N : Int} {T : Mem} (B : TB N T) (hN : N ≤ 2147483647) : R32 (ptT m r T) := fun x j => by
  by_cases z : x = r + 1 ∧ 35 ≤ j ∧ j < 355
  · obtain ⟨rfl, z⟩ := z
    rw [ptT_1]
    unfold ptS
    rw [if_pos z]
    by_cases y : j < 323
    · rw [if_pos y]
      have := B.n ((j - 35) % 9).toNat (by omega) (i := (j - 35) / 9) (by omega)
      omega
    · rw [if_neg y]
      split
      · have := B.q 9 (by omega) (i := (j - 323) / 2) (by omega); omega
      · have := B.q 10 (by omega) (i := (j - 323) / 2) (by omega); omega
  · unfold ptT
    rw [if_neg z]; exact R x j
