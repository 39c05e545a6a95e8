/-! a state, moved and copied -/
theorem RS.mv {N : Int} {mu mu' : Mem} {c c' : Nat} {s s' : Int → Int} (A : RS N mu c s) (h0 : ∀ i : Int, 0 ≤ i → i < 3 → mu' c' i = mu c i) (h1 : ∀ i : Int, 0 ≤ i → i < 32 → mu' (c' + 1) i = mu (c + 1) i) (hL : EqL (lay mu (c + 2)) (lay mu' (c' + 2)))
    (h12 : ∀ j : Nat, j < 4 → mu' (c' + 12) j = mu (c + 12) j) (hK : ∀ j : Nat, j < 4 → mu (c + 12) j = 1 → EqL (lay mu (c + 13 + 9 * j)) (lay mu' (c' + 13 + 9 * j))) (hs : ∀ i : Int, 0 ≤ i → i < 1639 → s' i = s i) : RS N mu' c' s' := by
  have p2 := h0 2 (by omega) (by omega)
  first | with_reducible refine RS.mk ?_ ?_ ?_ ?_ ?_ ?_ ?_ ?_ | with_reducible refine LR.mk ?_ ?_ ?_ ?_ ?_ | with_reducible refine BxI.mk ?_ ?_ ?_ ?_ ?_ ?_ | with_reducible refine WkI.mk ?_ ?_ ?_ ?_ ?_ ?_ | with_reducible refine PlE.mk ?_ ?_ ?_ ?_ ?_ | with_reducible refine Pl0.mk ?_ ?_ ?_ ?_ | with_reducible refine Tp.mk ?_ ?_ | with_reducible refine Vl.mk ?_ ?_ | with_reducible refine Lk.mk ?_ | with_reducible refine RfQ.mk ?_ ?_ ?_ ?_ | with_reducible refine ShQ.mk ?_ ?_ ?_ ?_ | with_reducible refine Que.mk ?_ ?_ ?_ ?_ ?_ ?_ ?_ ?_ | with_reducible refine QuI.mk ?_ ?_ ?_ ?_ ?_ ?_ | with_reducible refine Ord.mk ?_ ?_ ?_ ?_ ?_ ?_ ?_ ?_ ?_ ?_ | with_reducible refine LnI.mk ?_ ?_ ?_ ?_ ?_ ?_ ?_ ?_ ?_ ?_ ?_ ?_ ?_ ?_ ?_ ?_ ?_ | with_reducible refine Rl.mk ?_ ?_ ?_ ?_ ?_ ?_ ?_ ?_ ?_ ?_ ?_ ?_ ?_ | with_reducible refine Wf.mk ?_ ?_ ?_ ?_ ?_ ?_ ?_ ?_ ?_ ?_ ?_ | with_reducible refine Mb.mk ?_ ?_ ?_ ?_ ?_ | constructor
  · rw [h0 0 (by omega) (by omega), hs 0 (by omega) (by omega)]; exact A.wid
  · rw [h0 1 (by omega) (by omega), hs 1 (by omega) (by omega)]; exact A.hig
  · rw [p2, hs 2 (by omega) (by omega)]; exact A.pan
  · intro i i1 i2
    rw [h1 i i1 i2, hs _ (by omega) (by omega)]; exact A.lst i i1 i2
  · intro p ax q1 q2 ha
    rw [p2] at q2
    have := A.pan
    rw [h1 _ (by omega) (by omega)]
    exact A.low p ax q1 q2 ha
  · rw [p2]
    exact A.lyt.c hL (fun i i1 i2 => hs _ (by omega) (by omega)) A.pan.2.1
  · intro j hj
    rw [h12 j hj, hs _ (by omega) (by omega)]; exact A.has j hj
  · intro j hj hh
    rw [h12 j hj] at hh
    rw [p2]
    exact (A.kep j hj hh).c (hK j hj hh) (fun i i1 i2 => hs _ (by omega) (by omega)) A.pan.2.1
theorem lay_e {mu : Mem} {b k : Nat} (hk : k < 8) (i : Int) : lay mu b k i = mu (b + 1 + k) i := if_pos (by omega)
theorem EqL_cp8 {mu : Mem} {d b : Nat} (hd : d + 8 < b + 1 ∨ b + 8 < d + 1) : EqL (lay mu d) (lay (cp8 mu d b 8) b) := fun k i hk h1 h2 => by
  rw [lay_e hk, lay_e hk, cp8_row hd hk i 8 (by omega), if_pos ⟨by omega, h1, h2⟩]
theorem stA_e {mu : Mem} {d c : Nat} (hd : d + 49 ≤ c ∨ c + 49 ≤ d) : (∀ i : Int, 0 ≤ i → i < 3 → stA mu d c c i = mu d i) ∧ (∀ i : Int, 0 ≤ i → i < 32 → stA mu d c (c + 1) i = mu (d + 1) i) ∧ EqL (lay mu (d + 2)) (lay (stA mu d c) (c + 2)) ∧
    (∀ j : Int, 0 ≤ j → j < 4 → stA mu d c (c + 12) j = mu (d + 12) j) ∧ (∀ (x : Nat) (i : Int), x < c ∨ c + 13 ≤ x → stA mu d c x i = mu x i) := by
  have off : ∀ (x : Nat) (i : Int), x ≠ c → cp3 mu d c x i = mu x i := fun x i hx => by unfold cp3; rw [up_a _ _ _ _ hx, up_a _ _ _ _ hx, up_a _ _ _ _ hx]
  refine ⟨fun i h1 h2 => ?_, fun i h1 h2 => ?_, fun k i hk h1 h2 => ?_, fun j h1 h2 => ?_, fun x i hx => ?_⟩
  · rw [stA, cpF_off (by omega), cp8_off i 8 (by omega), cpF_off (by omega)]
    have : i = 0 ∨ i = 1 ∨ i = 2 := by omega
    unfold cp3
    rcases this with rfl | rfl | rfl
    · rw [up_e, if_neg (by omega), up_e, if_neg (by omega), up_e, if_pos ⟨rfl, rfl⟩]
    · rw [up_e, if_neg (by omega), up_e, if_pos ⟨rfl, rfl⟩]
    · rw [up_e, if_pos ⟨rfl, rfl⟩]
  · rw [stA, cpF_off (by omega), cp8_off i 8 (by omega)]
    unfold cpF
    rw [if_pos ⟨rfl, h1, h2⟩, off _ _ (by omega)]
  · rw [lay_e hk, lay_e hk, stA, cpF_off (by omega), cp8_row (by omega) hk i 8 (by omega), if_pos ⟨by omega, h1, h2⟩, cpF_off (by omega), off _ _ (by omega)]
  · rw [stA]
    unfold cpF
    rw [if_pos ⟨rfl, h1, h2⟩, cp8_off j 8 (by omega), if_neg (by omega), off _ _ (by omega)]
  · rw [stA, cpF_off (by omega), cp8_off i 8 (by omega), cpF_off (by omega), off _ _ (by omega)]
theorem stK_e {mu : Mem} {d c : Nat} (hd : d + 49 ≤ c ∨ c + 49 ≤ d) : ∀ j : Nat, j ≤ 4 → (∀ (x : Nat) (i : Int), x < c + 13 ∨ c + 13 + 9 * j ≤ x → stK mu d c j x i = stA mu d c x i) ∧
    (∀ k : Nat, k < j → mu (d + 12) k = 1 → EqL (lay mu (d + 13 + 9 * k)) (lay (stK mu d c j) (c + 13 + 9 * k)))
  | 0, _ => ⟨fun _ _ _ => rfl, fun k h => by omega⟩
  | j + 1, hj => by
    obtain ⟨p1, p2⟩ := stK_e hd j (by omega)
    obtain ⟨a1, a2, a3, a4, a5⟩ := stA_e (mu := mu) hd
    have g : gK (stK mu d c j) (c + 12) 4 j = mu (d + 12) j := by
      rw [gK_in ⟨by omega, by omega⟩ (by decide), p1 _ _ (by omega), a4 j (by omega) (by omega)]
    have src : ∀ (x : Nat) (i : Int), d ≤ x → x < d + 49 → stK mu d c j x i = mu x i := fun x i h1 h2 => stK_off (by omega) i j (by omega)
    rw [stK, g]
    by_cases z : mu (d + 12) j = 1
    · rw [if_pos z]
      refine ⟨fun x i hx => by rw [cp8_off i 8 (by omega), p1 x i (by omega)], fun k hk hh => ?_⟩
      by_cases y : k = j
      · subst y
        intro m i hm h1 h2
        have := EqL_cp8 (mu := stK mu d c k) (d := d + 13 + 9 * k) (b := c + 13 + 9 * k) (by omega) m i hm h1 h2
        rw [this, lay_e hm, lay_e hm, src _ _ (by omega) (by omega)]
      · intro m i hm h1 h2
        have := p2 k (by omega) hh m i hm h1 h2
        rw [lay_e hm] at this ⊢
        rw [cp8_off i 8 (by omega), this]
    · rw [if_neg z]
      refine ⟨fun x i hx => p1 x i (by omega), fun k hk hh => ?_⟩
      by_cases y : k = j
      · subst y; exact absurd hh z
      · exact p2 k (by omega) hh
/-- a state copied -/
theorem RS.cp {N : Int} {mu : Mem} {d c : Nat} {s : Int → Int} (A : RS N mu d s) (hd : d + 49 ≤ c ∨ c + 49 ≤ d) : RS N (stC mu d c) c s := by
  obtain ⟨a1, a2, a3, a4, a5⟩ := stA_e (mu := mu) hd
  obtain ⟨p1, p2⟩ := stK_e (mu := mu) hd 4 (by omega)
  refine A.mv (fun i h1 h2 => ?_) (fun i h1 h2 => ?_) (fun k i hk h1 h2 => ?_) (fun j hj => ?_) (fun j hj hh => p2 j hj hh) (fun _ _ _ => rfl)
  · show stK mu d c 4 c i = _
    rw [p1 _ _ (by omega), a1 i h1 h2]
  · show stK mu d c 4 (c + 1) i = _
    rw [p1 _ _ (by omega), a2 i h1 h2]
  · rw [← a3 k i hk h1 h2, lay_e hk, lay_e hk]
    have : k ≤ 7 := by omega
    exact p1 _ _ (by omega)
  · show stK mu d c 4 (c + 12) j = _
    rw [p1 _ _ (by omega), a4 j (by omega) (by omega)]
/-- a state where nothing of it is touched -/
theorem RS.off {N : Int} {mu mu' : Mem} {c : Nat} {s s' : Int → Int} (A : RS N mu c s) (h : ∀ (x : Nat) (i : Int), c ≤ x → x < c + 49 → mu' x i = mu x i) (hs : ∀ i : Int, 0 ≤ i → i < 1639 → s' i = s i) : RS N mu' c s' := by
  refine A.mv (fun i _ _ => h _ _ (by omega) (by omega)) (fun i _ _ => h _ _ (by omega) (by omega)) (fun k i hk _ _ => ?_) (fun j hj => h _ _ (by omega) (by omega)) (fun j hj _ k i hk _ _ => ?_) hs
  · rw [lay_e hk, lay_e hk]; exact h _ _ (by omega) (by omega)
  · rw [lay_e hk, lay_e hk]; exact h _ _ (by omega) (by omega)
theorem LR.mono {N M : Int} {L T : Mem} {P Q : Int} (A : LR N L T P) (h : N ≤ M) (hP : P ≤ Q) : LR M L T Q := by
  obtain ⟨a, b, c, d, e⟩ := A
  first | with_reducible refine RS.mk ?_ ?_ ?_ ?_ ?_ ?_ ?_ ?_ | with_reducible refine LR.mk ?_ ?_ ?_ ?_ ?_ | with_reducible refine BxI.mk ?_ ?_ ?_ ?_ ?_ ?_ | with_reducible refine WkI.mk ?_ ?_ ?_ ?_ ?_ ?_ | with_reducible refine PlE.mk ?_ ?_ ?_ ?_ ?_ | with_reducible refine Pl0.mk ?_ ?_ ?_ ?_ | with_reducible refine Tp.mk ?_ ?_ | with_reducible refine Vl.mk ?_ ?_ | with_reducible refine Lk.mk ?_ | with_reducible refine RfQ.mk ?_ ?_ ?_ ?_ | with_reducible refine ShQ.mk ?_ ?_ ?_ ?_ | with_reducible refine Que.mk ?_ ?_ ?_ ?_ ?_ ?_ ?_ ?_ | with_reducible refine QuI.mk ?_ ?_ ?_ ?_ ?_ ?_ | with_reducible refine Ord.mk ?_ ?_ ?_ ?_ ?_ ?_ ?_ ?_ ?_ ?_ | with_reducible refine LnI.mk ?_ ?_ ?_ ?_ ?_ ?_ ?_ ?_ ?_ ?_ ?_ ?_ ?_ ?_ ?_ ?_ ?_ | with_reducible refine Rl.mk ?_ ?_ ?_ ?_ ?_ ?_ ?_ ?_ ?_ ?_ ?_ ?_ ?_ | with_reducible refine Wf.mk ?_ ?_ ?_ ?_ ?_ ?_ ?_ ?_ ?_ ?_ ?_ | with_reducible refine Mb.mk ?_ ?_ ?_ ?_ ?_ | constructor
  · exact a
  · exact b
  · exact fun p h1 h2 => c p (by omega) h2
  · exact d
  · exact e.mono h
theorem RS.mono {N M : Int} {mu : Mem} {c : Nat} {s : Int → Int} (A : RS N mu c s) (h : N ≤ M) : RS M mu c s := by
  obtain ⟨a1, a2, a3, a4, a5, a6, a7, a8⟩ := A
  first | with_reducible refine RS.mk ?_ ?_ ?_ ?_ ?_ ?_ ?_ ?_ | with_reducible refine LR.mk ?_ ?_ ?_ ?_ ?_ | with_reducible refine BxI.mk ?_ ?_ ?_ ?_ ?_ ?_ | with_reducible refine WkI.mk ?_ ?_ ?_ ?_ ?_ ?_ | with_reducible refine PlE.mk ?_ ?_ ?_ ?_ ?_ | with_reducible refine Pl0.mk ?_ ?_ ?_ ?_ | with_reducible refine Tp.mk ?_ ?_ | with_reducible refine Vl.mk ?_ ?_ | with_reducible refine Lk.mk ?_ | with_reducible refine RfQ.mk ?_ ?_ ?_ ?_ | with_reducible refine ShQ.mk ?_ ?_ ?_ ?_ | with_reducible refine Que.mk ?_ ?_ ?_ ?_ ?_ ?_ ?_ ?_ | with_reducible refine QuI.mk ?_ ?_ ?_ ?_ ?_ ?_ | with_reducible refine Ord.mk ?_ ?_ ?_ ?_ ?_ ?_ ?_ ?_ ?_ ?_ | with_reducible refine LnI.mk ?_ ?_ ?_ ?_ ?_ ?_ ?_ ?_ ?_ ?_ ?_ ?_ ?_ ?_ ?_ ?_ ?_ | with_reducible refine Rl.mk ?_ ?_ ?_ ?_ ?_ ?_ ?_ ?_ ?_ ?_ ?_ ?_ ?_ | with_reducible refine Wf.mk ?_ ?_ ?_ ?_ ?_ ?_ ?_ ?_ ?_ ?_ ?_ | with_reducible refine Mb.mk ?_ ?_ ?_ ?_ ?_ | constructor
  · exact a1
  · exact a2
  · exact a3
  · exact a4
  · exact a5
  · exact a6.mono h (Int.le_refl _)
  · exact a7
  · exact fun j hj hh => (a8 j hj hh).mono h (Int.le_refl _)
