/-! THE TEXT OF COMMANDS, read by both sides alike -/
def TQ (m : Mem) (t : Nat) (w : Mem) (r : Nat) : Prop := m t 2 = w r 6 ∧ (0 ≤ w r 6 ∧ w r 6 ≤ 150) ∧ ∀ i : Int, 0 ≤ i → i < w r 6 → tB m t i = w (r + 5) i ∧ 0 ≤ w (r + 5) i ∧ w (r + 5) i ≤ 127
theorem TQ.of {m w : Mem} {t r : Nat} (A : TxR m t (w (r + 5)) (w r 6)) : TQ m t w r := by
  obtain ⟨a1, a2, a3⟩ := A
  refine ⟨a1, a2, fun i h1 h2 => ?_⟩
  unfold tB
  rw [gKr (by omega) (by omega)]
  exact a3 i h1 h2
theorem scG_c {B B' : Int → Int} (lo hi : Int) : ∀ (d : Nat) (c : Int), (∀ i : Int, c ≤ i → i < c + d → B i = B' i) → scG B lo hi d c = scG B' lo hi d c
  | 0, c, _ => rfl
  | d + 1, c, h => by
    rw [scG, scG, h c (by omega) (by omega), scG_c lo hi d (c + 1) (fun i h1 h2 => h i (by omega) (by omega))]
theorem scG_stop {B : Int → Int} (lo hi : Int) : ∀ (d : Nat) (c : Int), scG B lo hi d c < c + d → ¬ (lo ≤ B (scG B lo hi d c) ∧ B (scG B lo hi d c) ≤ hi)
  | 0, c, h => by simp only [scG] at h; omega
  | d + 1, c, h => by
    rw [scG] at h ⊢
    split at h
    · rename_i z
      rw [if_pos z]
      exact scG_stop lo hi d (c + 1) (by omega)
    · rename_i z
      rw [if_neg z]; exact z
theorem scG_all {B : Int → Int} (lo hi : Int) : ∀ (d : Nat) (c i : Int), c ≤ i → i < scG B lo hi d c → lo ≤ B i ∧ B i ≤ hi
  | 0, c, i, h1, h2 => by simp only [scG] at h2; omega
  | d + 1, c, i, h1, h2 => by
    rw [scG] at h2
    split at h2
    · rename_i z
      by_cases e : i = c
      · rw [e]; exact z
      · exact scG_all lo hi d (c + 1) i (by omega) h2
    · omega
theorem scG_no {B : Int → Int} {lo hi c : Int} (d : Nat) (h : ¬ (lo ≤ B c ∧ B c ≤ hi)) : scG B lo hi d c = c := by
  cases d with
  | zero => rfl
  | succ d => rw [scG, if_neg h]
section TT
variable {m w : Mem} {t r : Nat}
theorem kF_id (w : Mem) (r : Nat) {c : Int} (h : 0 ≤ c ∧ c ≤ w r 6) : kF w r (kF w r c) = kF w r c := by
  have b := kF_b w r h
  by_cases z : kF w r c < w r 6
  · have s := scG_stop (B := w (r + 5)) 32 32 (w r 6 - c).toNat c (by unfold kF at z; omega)
    exact scG_no _ s
  · have e : kF w r c = w r 6 := by omega
    rw [e]
    unfold kF
    rw [show (w r 6 - w r 6).toNat = 0 by omega]
    rfl
theorem kF_sp {c : Int} (h : 0 ≤ c ∧ c < w r 6) (e : w (r + 5) c = 32) : kF w r c = kF w r (c + 1) := by
  unfold kF
  rw [show (w r 6 - c).toNat = (w r 6 - (c + 1)).toNat + 1 by omega, scG, if_pos (by omega)]
theorem kF_no {c : Int} (h : w (r + 5) c ≠ 32) : kF w r c = c := scG_no _ (by omega)
theorem sk_e (A : TQ m t w r) {c : Int} (h : 0 ≤ c) : skF m t c = kF w r c := by
  unfold skF kF
  rw [A.1]
  exact scG_c _ _ _ _ fun i h1 h2 => (A.2.2 i (by omega) (by omega)).1
theorem wd_e (A : TQ m t w r) {c : Int} (h : 0 ≤ c) : wdF m t c = wcF w r c := by
  unfold wdF wcF
  rw [A.1]
  exact scG_c _ _ _ _ fun i h1 h2 => (A.2.2 i (by omega) (by omega)).1
theorem tH_e (A : TQ m t w r) {c : Int} (h : 0 ≤ c) : tH m t c = if c < w r 6 then w (r + 5) c else -1 := by
  unfold tH
  rw [A.1]
  by_cases z : c < w r 6
  · rw [if_pos z, if_pos z]; exact (A.2.2 c h z).1
  · rw [if_neg z, if_neg z]
theorem rAt_e (A : TQ m t w r) {c lo hi : Int} (h : 0 ≤ c) (hl : 0 ≤ lo) : rAt w r c lo hi = if lo ≤ tH m t c ∧ tH m t c ≤ hi then 1 else 0 := by
  rw [tH_e A h]
  unfold rAt
  by_cases z : c < w r 6
  · rw [if_pos z]
    by_cases y : lo ≤ w (r + 5) c ∧ w (r + 5) c ≤ hi
    · rw [if_pos ⟨z, y⟩, if_pos y]
    · rw [if_neg (fun q => y q.2), if_neg y]
  · rw [if_neg z, if_neg (fun q => z q.1), if_neg (by omega)]
theorem dg_e (A : TQ m t w r) : ∀ (d : Nat) (c v : Int), 0 ≤ c → dgG m t d c v = rgG w r d c v
  | 0, c, v, h => rfl
  | d + 1, c, v, h => by
    rw [dgG, rgG, rAt_e A h (by omega)]
    by_cases z : 48 ≤ tH m t c ∧ tH m t c ≤ 57
    · have e := tH_e A h
      have l : c < w r 6 := by
        by_cases y : c < w r 6
        · exact y
        · rw [if_neg y] at e; omega
      rw [if_pos l] at e
      rw [if_pos z, if_pos z, if_pos rfl, dg_e A d (c + 1) _ (by omega), e]
    · rw [if_neg z, if_neg z, if_neg (by omega)]
/-- a number -/
theorem num_e (A : TQ m t w r) {i c : Int} (N N' : Int → Int) (h : 0 ≤ c ∧ c ≤ w r 6) :
    ((nmF w r i c N').1 = 1 → (rmF m t i c N).1 = (nmF w r i c N').2.1 ∧ (rmF m t i c N).2.1 = -1 ∧ (rmF m t i c N).2.2 i = (nmF w r i c N').2.2 i ∧ ∀ j : Int, j ≠ i → (rmF m t i c N).2.2 j = N j ∧ (nmF w r i c N').2.2 j = N' j) ∧
    ((nmF w r i c N').1 ≠ 1 → ((rmF m t i c N).2.1 ≠ -1 ∧ (rmF m t i c N).2.1 = (nmF w r i c N').2.1) ∨ ((rmF m t i c N).2.1 = -1 ∧ (rmF m t i c N).1 = (nmF w r i c N').2.1 ∧ 48 ≤ tH m t (rmF m t i c N).1 ∧ tH m t (rmF m t i c N).1 ≤ 57)) := by
  have e32 := rAt_e A h.1 (lo := 32) (hi := 32) (by omega)
  have tc := tH_e A h.1
  unfold rmF nmF
  by_cases z : tH m t c = 32
  · have l : c < w r 6 := by
      by_cases y : c < w r 6
      · exact y
      · rw [if_neg y] at tc; omega
    rw [if_pos l] at tc
    rw [if_pos (by omega)] at e32
    have k1 := sk_e A (c := c + 1) (by omega)
    have k2 := kF_sp (w := w) (r := r) ⟨h.1, l⟩ (by omega)
    have kb := kF_b w r (c := c + 1) (by omega)
    rw [if_pos z, if_pos e32, k1, k2, dg_e A 3 _ 0 (by omega)]
    generalize kF w r (c + 1) = e at *
    have db := rgG_b w r 3 e 0 (by omega)
    generalize rgG w r 3 e 0 = D at *
    have ed := rAt_e A (c := D.1) (lo := 48) (hi := 57) (by omega) (by omega)
    dsimp only
    by_cases y : 48 ≤ tH m t D.1 ∧ tH m t D.1 ≤ 57
    · rw [if_pos y] at ed
      refine ⟨fun q => ?_, fun _ => ?_⟩
      · rw [if_neg (by omega)] at q; omega
      · by_cases x : D.1 = e
        · left; rw [if_pos x]; omega
        · right; rw [if_neg x]; exact ⟨rfl, rfl, y⟩
    · rw [if_neg y] at ed
      by_cases x : D.1 = e
      · refine ⟨fun q => ?_, fun _ => ?_⟩
        · rw [if_neg (by omega)] at q; omega
        · left; rw [if_pos x]; omega
      · refine ⟨fun _ => ⟨rfl, if_neg x, ?_, fun j hj => ?_⟩, fun q => ?_⟩
        · rw [if_pos rfl, if_pos rfl]
        · rw [if_neg hj, if_neg hj]; exact ⟨rfl, rfl⟩
        · rw [if_pos (by omega)] at q; omega
  · rw [if_neg (by omega)] at e32
    rw [if_neg z, if_neg (by omega)]
    dsimp only
    exact ⟨fun q => by omega, fun _ => Or.inl ⟨by omega, rfl⟩⟩
theorem rlG_f (m : Mem) (t : Nat) (d : Nat) {i c f : Int} {N : Int → Int} (h : f ≠ -1) : rlG m t d i c f N = (c, f, N) := by
  cases d with
  | zero => rfl
  | succ d => rw [rlG, if_neg h]
/-- the numbers -/
theorem rl_e (A : TQ m t w r) : ∀ (d : Nat) (i c : Int) (N N' : Int → Int), 0 ≤ c ∧ c ≤ w r 6 →
    ((nlG w r d i c N').1 = 1 → (rlG m t d i c (-1) N).1 = (nlG w r d i c N').2.1 ∧ (rlG m t d i c (-1) N).2.1 = -1 ∧ (∀ j : Int, i ≤ j → j < i + d → (rlG m t d i c (-1) N).2.2 j = (nlG w r d i c N').2.2 j) ∧ ∀ j : Int, j < i → (rlG m t d i c (-1) N).2.2 j = N j ∧ (nlG w r d i c N').2.2 j = N' j) ∧
    ((nlG w r d i c N').1 ≠ 1 → ((rlG m t d i c (-1) N).2.1 ≠ -1 ∧ (rlG m t d i c (-1) N).2.1 = (nlG w r d i c N').2.1) ∨ ((rlG m t d i c (-1) N).2.1 = -1 ∧ (rlG m t d i c (-1) N).1 = (nlG w r d i c N').2.1 ∧ 48 ≤ tH m t (rlG m t d i c (-1) N).1 ∧ tH m t (rlG m t d i c (-1) N).1 ≤ 57))
  | 0, i, c, N, N', h => by
    rw [rlG, nlG]
    exact ⟨fun _ => ⟨rfl, rfl, fun j h1 h2 => by omega, fun j _ => ⟨rfl, rfl⟩⟩, fun q => absurd rfl q⟩
  | d + 1, i, c, N, N', h => by
    have q := num_e A (i := i) N N' h
    have nb := nmF_b w r i N' h
    rw [rlG, if_pos rfl, nlG]
    by_cases y : (nmF w r i c N').1 = 1
    · obtain ⟨q1, q2, q3, q4⟩ := q.1 y
      rw [if_pos y, q2, q1]
      have ih := rl_e A d (i + 1) (nmF w r i c N').2.1 (rmF m t i c N).2.2 (nmF w r i c N').2.2 (by omega)
      refine ⟨fun z => ?_, ih.2⟩
      obtain ⟨g1, g2, g3, g4⟩ := ih.1 z
      refine ⟨g1, g2, fun j h1 h2 => ?_, fun j h1 => ?_⟩
      · by_cases e : j = i
        · have := g4 j (by omega)
          rw [this.1, this.2, e]; exact q3
        · exact g3 j (by omega) (by omega)
      · have a := g4 j (by omega)
        have b := q4 j (by omega)
        rw [a.1, a.2]; exact b
    · rw [if_neg y]
      dsimp only
      refine ⟨fun z => by omega, fun _ => ?_⟩
      rcases q.2 y with ⟨f1, f2⟩ | ⟨f1, f2, f3, f4⟩
      · rw [rlG_f m t d f1]; exact Or.inl ⟨f1, f2⟩
      · rw [f1]
        cases d with
        | zero => right; exact ⟨rfl, f2, f3, f4⟩
        | succ d =>
          left
          have e : rmF m t (i + 1) (rmF m t i c N).1 (rmF m t i c N).2.2 = ((rmF m t i c N).1, (rmF m t i c N).1, (rmF m t i c N).2.2) := by
            rw [rmF.eq_1 m t (i + 1), if_neg (by omega)]
          rw [rlG, if_pos rfl, e]
          dsimp only
          have c0 : (rmF m t i c N).1 ≠ -1 := by omega
          rw [rlG_f m t d c0]
          exact ⟨c0, f2⟩
end TT
