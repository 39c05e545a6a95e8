/-! GROUPS BY THEIR PLACE IN THE PLAN, AND HOW MANY THERE ARE -/
theorem gK9 {P : Mem} {k m : Nat} {i : Int} (h : 0 ≤ i ∧ i < m) (hm : m ≤ 1000) : gK P k m i = P k i := by
  unfold gK
  rw [wr_id (by omega)]
  exact if_pos h
def lfZ (P : Mem) (l : Int) : Int := if isZ (P 2 l) then 0 else 1
theorem lfZ_b (P : Mem) (l : Int) : 0 ≤ lfZ P l := by unfold lfZ; split <;> omega
theorem tnG_hit {P : Mem} {i : Int} (n0 : 0 ≤ P 0 9 ∧ P 0 9 ≤ 31) {k : Nat} (hk : (k : Int) < P 0 9) (hz : ¬ isZ (P 2 k)) (hi : smG (lfZ P) k = i) : ∀ (d j : Nat), (j : Int) + d = P 0 9 → j ≤ k → tnG P i d j (smG (lfZ P) j) = P 2 k
  | 0, j, h1, h2 => by omega
  | d + 1, j, h1, h2 => by
    unfold tnG
    rw [gK9 (by omega) (by omega)]
    have s : smG (lfZ P) (j + 1) = smG (lfZ P) j + lfZ P j := rfl
    by_cases z : isZ (P 2 j)
    · rw [if_pos (show 32 ≤ P 2 j ∧ P 2 j < 47 from z)]
      have l0 : lfZ P j = 0 := if_pos z
      have ne : j ≠ k := by rintro rfl; exact hz z
      have ih := tnG_hit n0 hk hz hi d (j + 1) (by omega) (by omega)
      rw [s, l0, Int.add_zero] at ih
      exact ih
    · rw [if_neg (show ¬ (32 ≤ P 2 j ∧ P 2 j < 47) from z)]
      have l1 : lfZ P j = 1 := if_neg z
      by_cases q : j = k
      · subst q; rw [if_pos hi]
      · have mo := smG_pre (f := lfZ P) k (j + 1) (by omega) (fun k _ _ => lfZ_b P k)
        rw [if_neg (by omega)]
        have ih := tnG_hit n0 hk hz hi d (j + 1) (by omega) (by omega)
        rw [s, l1] at ih
        exact ih
theorem tnG_no {P : Mem} {i : Int} (n0 : 0 ≤ P 0 9 ∧ P 0 9 ≤ 31) (hi : smG (lfZ P) (P 0 9).toNat ≤ i) : ∀ (d j : Nat), (j : Int) + d = P 0 9 → tnG P i d j (smG (lfZ P) j) = -1
  | 0, j, h1 => rfl
  | d + 1, j, h1 => by
    unfold tnG
    rw [gK9 (by omega) (by omega)]
    have s : smG (lfZ P) (j + 1) = smG (lfZ P) j + lfZ P j := rfl
    have ih := tnG_no n0 hi d (j + 1) (by omega)
    by_cases z : isZ (P 2 j)
    · rw [if_pos (show 32 ≤ P 2 j ∧ P 2 j < 47 from z)]
      have l0 : lfZ P j = 0 := if_pos z
      rw [s, l0, Int.add_zero] at ih
      exact ih
    · rw [if_neg (show ¬ (32 ≤ P 2 j ∧ P 2 j < 47) from z)]
      have l1 : lfZ P j = 1 := if_neg z
      have mo := smG_pre (f := lfZ P) (P 0 9).toNat (j + 1) (by omega) (fun k _ _ => lfZ_b P k)
      rw [if_neg (by omega)]
      rw [s, l1] at ih
      exact ih
theorem smG_c1 : ∀ n : Nat, smG (fun _ => 1) n = n
  | 0 => rfl
  | n + 1 => by unfold smG; rw [smG_c1 n]; rfl
section TN
variable {L P : Mem} {m : Int} {Q o c : Int → Int} {rk : Int → Nat}
theorem Sg.leaf (S : Sg L m Q o c) {x : Int} (hx : Tn L x) : (isZ x ∧ (Q (3 * o x) = 2 ∨ Q (3 * o x) = 3)) ∨ (¬ isZ x ∧ x < 32 ∧ Q (3 * o x) = 1 ∧ Q (3 * o x + 2) = x - 16) := by
  by_cases z : 32 ≤ x
  · exact Or.inl ⟨⟨z, hx.1.2⟩, S.sx hx z⟩
  · have l := S.lef x hx (by omega)
    exact Or.inr ⟨fun q => z q.1, by omega, l.2.1, l.2.2⟩
/-- how many groups stand ahead -/
theorem Sg.ahead (S : Sg L m Q o c) (W : Wf L (-1)) (F : Fu L) (K : RK L rk) (O : Ord L P) {k : Nat} (hk : (k : Int) < P 0 9) : smG (lfZ P) k = jGG Q (o (P 2 k)).toNat := by
  have s := S.sums W F K O (f := fun v => if v = 1 then 1 else 0) (by decide) k hk
  rw [jGG_sm, ← s]
  refine smG_ext k fun l l1 l2 => ?_
  have hx := S.leaf (tnI.mp (O.rng l l1 (by omega)))
  unfold lfZ
  rcases hx with ⟨z, q⟩ | ⟨z, -, q, -⟩
  · rw [if_pos z]
    show (0 : Int) = if Q (3 * o (P 2 l)) = 1 then 1 else 0
    rw [if_neg (by omega)]
  · rw [if_neg z]
    show (1 : Int) = if Q (3 * o (P 2 l)) = 1 then 1 else 0
    rw [if_pos q]
theorem Sg.aheadA (S : Sg L m Q o c) (W : Wf L (-1)) (F : Fu L) (K : RK L rk) (O : Ord L P) : smG (lfZ P) (P 0 9).toNat = jGG Q m.toNat := by
  have s := S.sumA W F K O (f := fun v => if v = 1 then 1 else 0) (by decide)
  rw [jGG_sm, ← s]
  refine smG_ext _ fun l l1 l2 => ?_
  have hx := S.leaf (tnI.mp (O.rng l l1 (by omega)))
  unfold lfZ
  rcases hx with ⟨z, q⟩ | ⟨z, -, q, -⟩
  · rw [if_pos z]
    show (0 : Int) = if Q (3 * o (P 2 l)) = 1 then 1 else 0
    rw [if_neg (by omega)]
  · rw [if_neg z]
    show (1 : Int) = if Q (3 * o (P 2 l)) = 1 then 1 else 0
    rw [if_pos q]
theorem Sg.cnt (S : Sg L m Q o c) (W : Wf L (-1)) (F : Fu L) (K : RK L rk) (O : Ord L P) : P 0 10 = jZG Q m.toNat ∧ P 0 9 - P 0 10 = jGG Q m.toNat := by
  have n0 := O.n0
  have s := S.sumA W F K O (f := fun v => if v = 2 ∨ v = 3 then 1 else 0) (by decide)
  have a : P 0 10 = jZG Q m.toNat := by
    rw [jZG_sm, ← s, O.sp]
    refine smG_ext _ fun l l1 l2 => ?_
    have hx := S.leaf (tnI.mp (O.rng l l1 (by omega)))
    show (if isZ (P 2 l) then 1 else 0) = if Q (3 * o (P 2 l)) = 2 ∨ Q (3 * o (P 2 l)) = 3 then (1 : Int) else 0
    rcases hx with ⟨z, q⟩ | ⟨z, -, q, -⟩
    · rw [if_pos z, if_pos q]
    · rw [if_neg z, if_neg (by omega)]
  refine ⟨a, ?_⟩
  rw [← S.aheadA W F K O, O.sp]
  have e := smG_add (fun k => if isZ (P 2 k) then 1 else 0) (lfZ P) (P 0 9).toNat
  have e1 : smG (fun k => (if isZ (P 2 k) then 1 else 0) + lfZ P k) (P 0 9).toNat = smG (fun _ => 1) (P 0 9).toNat := smG_ext _ fun l l1 l2 => by
    show (if isZ (P 2 l) then 1 else 0) + lfZ P l = 1
    unfold lfZ
    by_cases z : isZ (P 2 l)
    · rw [if_pos z, if_pos z]; rfl
    · rw [if_neg z, if_neg z]; rfl
  rw [e1, smG_c1] at e
  omega
theorem Sg.tn (S : Sg L m Q o c) (W : Wf L (-1)) (F : Fu L) (K : RK L rk) (O : Ord L P) {i : Int} (i1 : 0 ≤ i) (i2 : i < m) (hq : Q (3 * i) = 1) : tnF P (jGG Q i.toNat) = Q (3 * i + 2) + 16 ∧ Tn L (Q (3 * i + 2) + 16) ∧ Q (3 * i + 2) + 16 < 32 := by
  have n0 := O.n0
  obtain ⟨x, hx, hz⟩ := S.cov i i1 i2
  rcases hz with e | ⟨e, e32⟩
  · subst e
    rcases S.leaf hx with ⟨z, q⟩ | ⟨z, x32, q, q2⟩
    · omega
    · obtain ⟨k, k1, k2, k3⟩ := O.all x (tnI.mpr hx)
      obtain ⟨n, rfl⟩ := nat_of k1
      have a := S.ahead W F K O (k := n) k2
      rw [k3] at a
      have t := tnG_hit (i := jGG Q (o x).toNat) n0 k2 (by rw [k3]; exact z) a (P 0 9).toNat 0 (by omega) (by omega)
      rw [k3] at t
      rw [q2, show x - 16 + 16 = x by omega]
      exact ⟨t, hx, x32⟩
  · have := (S.spl x hx e32).2.1
    rw [e] at this
    omega
theorem Sg.tnN (S : Sg L m Q o c) (W : Wf L (-1)) (F : Fu L) (K : RK L rk) (O : Ord L P) : tnF P (jGG Q m.toNat) = -1 := by
  have n0 := O.n0
  exact tnG_no n0 (Int.le_of_eq (S.aheadA W F K O)) (P 0 9).toNat 0 (by omega)
end TN
