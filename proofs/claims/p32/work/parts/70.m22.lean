/-! sharing cells among the children of a split: m children with least sizes le and weights wt, a cells -/
def rmS (m : Nat) (a : Int) (le fr : Int → Int) : Int := a - smG (fun k => if fr k = 1 then 0 else le k) m
def wgS (m : Nat) (wt fr : Int → Int) : Int := smG (fun k => if fr k = 1 then wt k else 0) m
def paS (m : Nat) (a : Int) (le wt fr : Int → Int) (k : Int) : Int := rmS m a le fr * wt k / wgS m wt fr
def nxS (m : Nat) (a : Int) (le wt fr : Int → Int) (k : Int) : Int := if fr k = 1 ∧ le k ≤ paS m a le wt fr k then 1 else 0
def frS9 (m : Nat) (a : Int) (le wt : Int → Int) : Nat → Int → Int
  | 0 => fun _ => 1
  | i + 1 => nxS m a le wt (frS9 m a le wt i)
/-- how many become unfree, and what they take -/
def nwS (m : Nat) (a : Int) (le wt fr : Int → Int) : Int := smG (fun k => if fr k = 1 ∧ paS m a le wt fr k < le k then 1 else 0) m
def tkS (m : Nat) (a : Int) (le wt fr : Int → Int) : Int := smG (fun k => if fr k = 1 ∧ paS m a le wt fr k < le k then le k else 0) m
/-- what is handed out at the end -/
def hoL (fr : Int → Int) (lf : Int) : Nat → Int
  | 0 => lf
  | j + 1 => if 0 < hoL fr lf j ∧ fr j = 1 then hoL fr lf j - 1 else hoL fr lf j
def bnS (fr : Int → Int) (lf : Int) (k : Int) : Int := if 0 < hoL fr lf k.toNat ∧ fr k = 1 then 1 else 0
def baS (m : Nat) (a : Int) (le wt fr : Int → Int) (k : Int) : Int := if fr k = 1 then paS m a le wt fr k else le k
def lfS (m : Nat) (a : Int) (le wt fr : Int → Int) : Int := rmS m a le fr - smG (fun k => if fr k = 1 then paS m a le wt fr k else 0) m
def shS (m : Nat) (a : Int) (le wt fr : Int → Int) (k : Int) : Int := baS m a le wt fr k + bnS fr (lfS m a le wt fr) k
/-- by least sizes -/
def tlS (m : Nat) (a : Int) (le : Int → Int) : Int := a - smG (fun k => a * le k / smG le m) m
def tsS (m : Nat) (a : Int) (le : Int → Int) (k : Int) : Int := a * le k / smG le m + (if k < tlS m a le then 1 else 0)
def ShOk (m : Nat) (a : Int) (le wt : Int → Int) : Prop := m ≤ 16 ∧ (0 ≤ a ∧ a ≤ 1000) ∧ ∀ k : Int, 0 ≤ k → k < m → (1 ≤ le k ∧ le k ≤ 1000) ∧ 1 ≤ wt k ∧ wt k ≤ 1000000
theorem smG_pos {f : Int → Int} {m : Nat} {k : Int} (h : ∀ o : Int, 0 ≤ o → o < m → 0 ≤ f o) (hk : 0 ≤ k ∧ k < m) : f k ≤ smG f m := by
  have : smG (fun o => if o = k then f o else 0) m ≤ smG f m := smG_mono m (fun o h1 h2 => by
    show (if o = k then f o else 0) ≤ f o
    have := h o h1 h2
    split <;> omega)
  rw [smG_one f k m hk.1 hk.2] at this
  exact this
theorem frS9_01 (m : Nat) (a : Int) (le wt : Int → Int) (i : Nat) (k : Int) : frS9 m a le wt i k = 0 ∨ frS9 m a le wt i k = 1 := by
  cases i with
  | zero => exact Or.inr rfl
  | succ i => show nxS _ _ _ _ _ k = 0 ∨ nxS _ _ _ _ _ k = 1; unfold nxS; split <;> simp
theorem smG_sub (f g : Int → Int) : ∀ m : Nat, smG (fun o => f o - g o) m = smG f m - smG g m
  | 0 => rfl
  | m + 1 => by unfold smG; rw [smG_sub f g m]; omega
/-- the room left shrinks by what is taken -/
theorem rmS_nx {m : Nat} {a : Int} {le wt fr : Int → Int} : rmS m a le (nxS m a le wt fr) = rmS m a le fr - tkS m a le wt fr := by
  have e : smG (fun k => if nxS m a le wt fr k = 1 then 0 else le k) m = smG (fun k => (if fr k = 1 then 0 else le k) + (if fr k = 1 ∧ paS m a le wt fr k < le k then le k else 0)) m := by
    refine smG_ext m fun k _ _ => ?_
    show (if nxS m a le wt fr k = 1 then 0 else le k) = (if fr k = 1 then 0 else le k) + (if fr k = 1 ∧ paS m a le wt fr k < le k then le k else 0)
    unfold nxS
    generalize paS m a le wt fr k = pk
    grind
  unfold rmS tkS
  rw [e, smG_add]
  omega
theorem rmS_b {m : Nat} {a : Int} {le wt : Int → Int} (h : ShOk m a le wt) (fr : Int → Int) : rmS m a le fr ≤ a ∧ a - smG le m ≤ rmS m a le fr := by
  have e1 := smG_ge (fun k => if fr k = 1 then 0 else le k) 0 m (fun k h1 h2 => by have := (h.2.2 k h1 h2).1; show 0 ≤ (if fr k = 1 then 0 else le k); split <;> omega)
  have e2 : smG (fun k => if fr k = 1 then 0 else le k) m ≤ smG le m := smG_mono m (fun k h1 h2 => by have := (h.2.2 k h1 h2).1; show (if fr k = 1 then 0 else le k) ≤ le k; split <;> omega)
  unfold rmS
  omega
theorem wgS_b {m : Nat} {a : Int} {le wt : Int → Int} (h : ShOk m a le wt) (fr : Int → Int) : 0 ≤ wgS m wt fr ∧ wgS m wt fr ≤ 16000000 ∧ ∀ k : Int, 0 ≤ k → k < m → fr k = 1 → 1 ≤ wgS m wt fr := by
  have e1 := smG_ge (fun k => if fr k = 1 then wt k else 0) 0 m (fun k h1 h2 => by have := (h.2.2 k h1 h2).2; show 0 ≤ (if fr k = 1 then wt k else 0); split <;> omega)
  have e2 := smG_le (fun k => if fr k = 1 then wt k else 0) 1000000 m (fun k h1 h2 => by have := (h.2.2 k h1 h2).2; show (if fr k = 1 then wt k else 0) ≤ 1000000; split <;> omega)
  have hm := h.1
  refine ⟨by unfold wgS; omega, by unfold wgS; omega, fun k h1 h2 h3 => ?_⟩
  have := smG_pos (f := fun k => if fr k = 1 then wt k else 0) (m := m) (k := k) (fun o o1 o2 => by have := (h.2.2 o o1 o2).2; show 0 ≤ (if fr o = 1 then wt o else 0); split <;> omega) ⟨h1, h2⟩
  have this : (if fr k = 1 then wt k else 0) ≤ wgS m wt fr := this
  rw [if_pos h3] at this
  have := (h.2.2 k h1 h2).2
  omega
theorem paS_b {m : Nat} {a : Int} {le wt : Int → Int} (h : ShOk m a le wt) (hn : smG le m < a) (fr : Int → Int) {k : Int} (hk : 0 ≤ k ∧ k < m) : 0 ≤ paS m a le wt fr k ∧ paS m a le wt fr k ≤ 1000000000 := by
  have r := rmS_b h fr
  have w := wgS_b h fr
  have x := (h.2.2 k hk.1 hk.2).2
  have a9 := h.2.1
  have p1 : 0 ≤ rmS m a le fr * wt k := Int.mul_nonneg (by omega) (by omega)
  have p2 : rmS m a le fr * wt k ≤ 1000 * 1000000 := Int.mul_le_mul (by omega) (by omega) (by omega) (by omega)
  unfold paS
  refine ⟨Int.ediv_nonneg p1 w.1, ?_⟩
  by_cases z : wgS m wt fr = 0
  · rw [z, Int.ediv_zero]; omega
  · have := Int.ediv_le_self (wgS m wt fr) p1
    omega
/-- the first look at which none becomes unfree -/
theorem nwS_tkS {m : Nat} {a : Int} {le wt : Int → Int} (h : ShOk m a le wt) (fr : Int → Int) : (nwS m a le wt fr = 0 ↔ tkS m a le wt fr = 0) ∧ 0 ≤ nwS m a le wt fr ∧ 0 ≤ tkS m a le wt fr ∧ tkS m a le wt fr ≤ 16000 := by
  have e1 := smG_ge (fun k => if fr k = 1 ∧ paS m a le wt fr k < le k then (1 : Int) else 0) 0 m (fun k h1 h2 => by show (0 : Int) ≤ (if fr k = 1 ∧ paS m a le wt fr k < le k then (1 : Int) else 0); split <;> omega)
  have e2 : smG (fun k => if fr k = 1 ∧ paS m a le wt fr k < le k then (1 : Int) else 0) m ≤ tkS m a le wt fr := smG_mono m (fun k h1 h2 => by
    have := (h.2.2 k h1 h2).1
    show (if fr k = 1 ∧ paS m a le wt fr k < le k then (1 : Int) else 0) ≤ (if fr k = 1 ∧ paS m a le wt fr k < le k then le k else 0); split <;> omega)
  have e3 := smG_le (fun k => if fr k = 1 ∧ paS m a le wt fr k < le k then le k else 0) 1000 m (fun k h1 h2 => by
    have := (h.2.2 k h1 h2).1
    show (if fr k = 1 ∧ paS m a le wt fr k < le k then le k else 0) ≤ 1000; split <;> omega)
  have hm := h.1
  have n0 : nwS m a le wt fr = smG (fun k => if fr k = 1 ∧ paS m a le wt fr k < le k then (1 : Int) else 0) m := rfl
  have t0 : tkS m a le wt fr = smG (fun k => if fr k = 1 ∧ paS m a le wt fr k < le k then le k else 0) m := rfl
  refine ⟨⟨fun z => ?_, fun z => by omega⟩, by omega, by omega, by omega⟩
  rw [t0]
  refine smG_zero m fun k h1 h2 => ?_
  have := smG_pos (f := fun k => if fr k = 1 ∧ paS m a le wt fr k < le k then (1 : Int) else 0) (m := m) (k := k) (fun o _ _ => by show (0 : Int) ≤ (if fr o = 1 ∧ paS m a le wt fr o < le o then (1 : Int) else 0); split <;> omega) ⟨h1, h2⟩
  have this : (if fr k = 1 ∧ paS m a le wt fr k < le k then (1 : Int) else 0) ≤ nwS m a le wt fr := this
  show (if fr k = 1 ∧ paS m a le wt fr k < le k then le k else 0) = 0
  split at this
  · omega
  · rename_i y; rw [if_neg y]
theorem nxS_eq {m : Nat} {a : Int} {le wt fr : Int → Int} (h01 : ∀ k, fr k = 0 ∨ fr k = 1) (h : nwS m a le wt fr = 0) {k : Int} (hk : 0 ≤ k ∧ k < m) : nxS m a le wt fr k = fr k := by
  have := smG_pos (f := fun k => if fr k = 1 ∧ paS m a le wt fr k < le k then (1 : Int) else 0) (m := m) (k := k) (fun o _ _ => by show (0 : Int) ≤ (if fr o = 1 ∧ paS m a le wt fr o < le o then (1 : Int) else 0); split <;> omega) hk
  have this : (if fr k = 1 ∧ paS m a le wt fr k < le k then (1 : Int) else 0) ≤ nwS m a le wt fr := this
  unfold nxS
  rcases h01 k with z | z
  · rw [z]; simp
  · rw [z]
    by_cases y : le k ≤ paS m a le wt fr k
    · rw [if_pos ⟨rfl, y⟩]
    · rw [if_pos ⟨z, by omega⟩] at this; omega
/-- the looks end: within m of them -/
theorem frS9_end {m : Nat} {a : Int} {le wt : Int → Int} (h : ShOk m a le wt) : ∃ N : Nat, N ≤ m ∧ nwS m a le wt (frS9 m a le wt N) = 0 ∧ ∀ i : Nat, i < N → nwS m a le wt (frS9 m a le wt i) ≠ 0 := by
  classical
  have key : ∀ i : Nat, (∀ j : Nat, j < i → nwS m a le wt (frS9 m a le wt j) ≠ 0) → smG (fun k => if frS9 m a le wt i k = 1 then 1 else 0) m ≤ (m : Int) - i := by
    intro i
    induction i with
    | zero => intro _; have := smG_le (fun k => if frS9 m a le wt 0 k = 1 then (1 : Int) else 0) 1 m (fun o _ _ => by show (if _ then (1 : Int) else 0) ≤ 1; split <;> omega); omega
    | succ i ih =>
      intro hj
      have a1 := ih (fun j h => hj j (by omega))
      have a2 := hj i (by omega)
      have a3 := (nwS_tkS h (frS9 m a le wt i)).2.1
      have e : smG (fun k => if frS9 m a le wt i k = 1 then (1 : Int) else 0) m = smG (fun k => (if frS9 m a le wt (i + 1) k = 1 then (1 : Int) else 0) + (if frS9 m a le wt i k = 1 ∧ paS m a le wt (frS9 m a le wt i) k < le k then 1 else 0)) m := by
        refine smG_ext m fun k _ _ => ?_
        show (if frS9 m a le wt i k = 1 then (1 : Int) else 0) = (if nxS m a le wt (frS9 m a le wt i) k = 1 then (1 : Int) else 0) + _
        unfold nxS
        generalize paS m a le wt (frS9 m a le wt i) k = pk
        generalize frS9 m a le wt i k = fk
        grind
      rw [smG_add] at e
      have : smG (fun k => if frS9 m a le wt i k = 1 ∧ paS m a le wt (frS9 m a le wt i) k < le k then (1 : Int) else 0) m = nwS m a le wt (frS9 m a le wt i) := rfl
      omega
  have ex : ∃ i : Nat, i ≤ m ∧ nwS m a le wt (frS9 m a le wt i) = 0 := by
    by_cases z : ∃ i : Nat, i ≤ m ∧ nwS m a le wt (frS9 m a le wt i) = 0
    · exact z
    · have k := key (m + 1) (fun j hj y => z ⟨j, by omega, y⟩)
      have := smG_ge (fun k => if frS9 m a le wt (m + 1) k = 1 then (1 : Int) else 0) 0 m (fun o _ _ => by show (0 : Int) ≤ (if _ then (1 : Int) else 0); split <;> omega)
      omega
  obtain ⟨i, hi, hz⟩ := ex
  have step : ∀ n : Nat, (∀ i : Nat, i < n → nwS m a le wt (frS9 m a le wt i) ≠ 0) ∨ ∃ N : Nat, N < n ∧ nwS m a le wt (frS9 m a le wt N) = 0 ∧ ∀ i : Nat, i < N → nwS m a le wt (frS9 m a le wt i) ≠ 0 := by
    intro n
    induction n with
    | zero => exact Or.inl (fun i h => by omega)
    | succ n ih =>
      rcases ih with ih | ⟨N, a1, a2, a3⟩
      · by_cases y : nwS m a le wt (frS9 m a le wt n) = 0
        · exact Or.inr ⟨n, by omega, y, ih⟩
        · refine Or.inl (fun j hj => ?_)
          by_cases q : j = n
          · rw [q]; exact y
          · exact ih j (by omega)
      · exact Or.inr ⟨N, by omega, a2, a3⟩
  rcases step (i + 1) with s | ⟨N, a1, a2, a3⟩
  · exact absurd hz (s i (by omega))
  · exact ⟨N, by omega, a2, a3⟩
