/-! a split of the reference shares -/
theorem paS_le {m : Nat} {a : Int} {le wt fr : Int → Int} (h : ShOk m a le wt) (hn : smG le m < a) {k : Int} (hk : 0 ≤ k ∧ k < m) (k3 : fr k = 1) : 0 ≤ paS m a le wt fr k ∧ paS m a le wt fr k ≤ 1000 := by
  have w := wgS_b h fr
  have w1 := w.2.2 k hk.1 hk.2 k3
  have rb := rmS_b h fr
  have ha := h.2.1
  have wk := smG_pos (f := fun k => if fr k = 1 then wt k else 0) (m := m) (k := k) (fun o o1 o2 => by have := (h.2.2 o o1 o2).2; show 0 ≤ (if fr o = 1 then wt o else 0); split <;> omega) hk
  have wk : (if fr k = 1 then wt k else 0) ≤ wgS m wt fr := wk
  rw [if_pos k3] at wk
  have d0 := Int.emod_def (rmS m a le fr * wt k) (wgS m wt fr)
  have d1 := Int.emod_nonneg (rmS m a le fr * wt k) (show wgS m wt fr ≠ 0 by omega)
  have e : rmS m a le fr * wt k ≤ rmS m a le fr * wgS m wt fr := Int.mul_le_mul_of_nonneg_left wk (by omega)
  rw [Int.mul_comm (rmS m a le fr) (wgS m wt fr)] at e
  refine ⟨(paS_b h hn fr hk).1, ?_⟩
  unfold paS
  have := Int.le_of_mul_le_mul_left (Int.le_trans (show wgS m wt fr * (rmS m a le fr * wt k / wgS m wt fr) ≤ rmS m a le fr * wt k by omega) e) (by omega)
  omega
theorem lfS_b {m : Nat} {a : Int} {le wt fr : Int → Int} (h : ShOk m a le wt) (hn : smG le m < a) : -16000 ≤ lfS m a le wt fr ∧ lfS m a le wt fr ≤ 1000 := by
  have t1 := smG_ge (fun k => if fr k = 1 then paS m a le wt fr k else 0) 0 m (fun k k1 k2 => by
    show 0 ≤ (if fr k = 1 then paS m a le wt fr k else 0)
    split
    · rename_i y; exact (paS_le h hn ⟨k1, k2⟩ y).1
    · omega)
  have t2 := smG_le (fun k => if fr k = 1 then paS m a le wt fr k else 0) 1000 m (fun k k1 k2 => by
    show (if fr k = 1 then paS m a le wt fr k else 0) ≤ 1000
    split
    · rename_i y; exact (paS_le h hn ⟨k1, k2⟩ y).2
    · omega)
  have rb := rmS_b h fr
  have ha := h.2.1
  have hm := h.1
  unfold lfS
  omega
theorem shZ_e {T Z : Mem} {s c : Int} {m : Nat} {a : Int} {le wt : Int → Int} (h : ShOk m a le wt) (hR : RfQ T Z s m le wt) (hm : 0 < m) (ha : alF T s c = a) (hs : ltF T Z s s = smG le m + ((m : Int) - 1)) (hc : -100000 ≤ c ∧ c ≤ 1000) {N : Nat} (hz : nwS m a le wt (frS9 m a le wt N) = 0) (hnz : ∀ i : Nat, i < N → nwS m a le wt (frS9 m a le wt i) ≠ 0) (hN : N ≤ m) :
    (∀ k : Int, 0 ≤ k → k < m → shZ T Z s c 14 k = if a ≤ smG le m then tsS m a le k else shS m a le wt (frS9 m a le wt N) k) ∧ (∀ i : Int, shZ T Z s c 13 i = if i = s then (if a ≤ smG le m then 1 else 0) else Z 13 i) ∧
      (∀ (w : Nat) (i : Int), w ≠ 13 → w ≠ 14 → w ≠ 15 → shZ T Z s c w i = Z w i) ∧ okS T Z s c := by
  have hm16 := h.1
  have hab := h.2.1
  have sl := sle_b h m (Nat.le_refl _)
  have s1 := sl.2.2 hm
  have hsu : suF T Z s = smG le m := by unfold suF; rw [hs, hR.kds]; omega
  have hRt : RfQ T (tgZ T Z s c) s m le wt := by
    obtain ⟨r1, r2, r3, r4⟩ := hR
    first | with_reducible refine Lk.mk ?_ | with_reducible refine RfQ.mk ?_ ?_ ?_ ?_ | with_reducible refine ShQ.mk ?_ ?_ ?_ ?_ | with_reducible refine Que.mk ?_ ?_ ?_ ?_ ?_ ?_ ?_ ?_ | with_reducible refine QuI.mk ?_ ?_ ?_ ?_ ?_ ?_ | with_reducible refine Ord.mk ?_ ?_ ?_ ?_ ?_ ?_ ?_ ?_ ?_ ?_ | with_reducible refine LnI.mk ?_ ?_ ?_ ?_ ?_ ?_ ?_ ?_ ?_ ?_ ?_ ?_ ?_ ?_ ?_ ?_ ?_ | with_reducible refine Rl.mk ?_ ?_ ?_ ?_ ?_ ?_ ?_ ?_ ?_ ?_ ?_ ?_ ?_ | with_reducible refine Wf.mk ?_ ?_ ?_ ?_ ?_ ?_ ?_ ?_ ?_ ?_ ?_ | with_reducible refine Mb.mk ?_ ?_ ?_ ?_ ?_ | constructor
    · exact r1
    · exact r2
    · intro k k1 k2
      rw [← r3 k k1 k2]
      exact ltF_cong (fun i => by unfold tgZ; rw [up_e, if_neg (by omega)]) (fun i => by unfold tgZ; rw [up_e, if_neg (by omega)])
    · exact r4
  have pb : ∀ k : Int, 0 ≤ k → k < m → a ≤ smG le m → 0 ≤ a * le k / smG le m ∧ a * le k / smG le m ≤ 1000 := by
    intro k k1 k2 ht
    have := (h.2.2 k k1 k2).1
    have n : 0 ≤ a * le k := Int.mul_nonneg hab.1 (by omega)
    have e : a * le k ≤ smG le m * le k := Int.mul_le_mul_of_nonneg_right ht (by omega)
    have e2 := Int.ediv_le_ediv (show 0 < smG le m by omega) e
    rw [Int.mul_ediv_cancel_left _ (by omega)] at e2
    exact ⟨Int.ediv_nonneg n (by omega), by omega⟩
  -- the classes' way tells the rest of what is left by least sizes
  have tlb : a ≤ smG le m → 0 ≤ tlS m a le ∧ tlS m a le ≤ m := by
    intro ht
    let Q : Mem := fun k i => if k = 9 ∧ i = 4 then m else if k = 9 ∧ i = 5 then smG le m else if k = 10 then le i else if k = 11 then wt i else 1
    have hQ : ShQ Q m le wt := by
      first | with_reducible refine Lk.mk ?_ | with_reducible refine RfQ.mk ?_ ?_ ?_ ?_ | with_reducible refine ShQ.mk ?_ ?_ ?_ ?_ | with_reducible refine Que.mk ?_ ?_ ?_ ?_ ?_ ?_ ?_ ?_ | with_reducible refine QuI.mk ?_ ?_ ?_ ?_ ?_ ?_ | with_reducible refine Ord.mk ?_ ?_ ?_ ?_ ?_ ?_ ?_ ?_ ?_ ?_ | with_reducible refine LnI.mk ?_ ?_ ?_ ?_ ?_ ?_ ?_ ?_ ?_ ?_ ?_ ?_ ?_ ?_ ?_ ?_ ?_ | with_reducible refine Rl.mk ?_ ?_ ?_ ?_ ?_ ?_ ?_ ?_ ?_ ?_ ?_ ?_ ?_ | with_reducible refine Wf.mk ?_ ?_ ?_ ?_ ?_ ?_ ?_ ?_ ?_ ?_ ?_ | with_reducible refine Mb.mk ?_ ?_ ?_ ?_ ?_ | constructor
      · rfl
      · show (if (9 : Nat) = 9 ∧ (5 : Int) = 4 then (m : Int) else if (9 : Nat) = 9 ∧ (5 : Int) = 5 then smG le m else _) = _
        rw [if_neg (by omega), if_pos ⟨rfl, rfl⟩]
      · intro k _ _
        show (if (10 : Nat) = 9 ∧ k = 4 then (m : Int) else if (10 : Nat) = 9 ∧ k = 5 then smG le m else if (10 : Nat) = 10 then le k else _) = _
        rw [if_neg (by omega), if_neg (by omega), if_pos rfl]
      · intro k _ _
        show (if (11 : Nat) = 9 ∧ k = 4 then (m : Int) else if (11 : Nat) = 9 ∧ k = 5 then smG le m else if (11 : Nat) = 10 then le k else if (11 : Nat) = 11 then wt k else 1) = _
        rw [if_neg (by omega), if_neg (by omega), if_neg (by omega), if_pos rfl]
    exact (glF_e h hQ (fun k _ _ => by
      show (if (13 : Nat) = 9 ∧ k = 4 then (m : Int) else if (13 : Nat) = 9 ∧ k = 5 then smG le m else if (13 : Nat) = 10 then le k else if (13 : Nat) = 11 then wt k else 1) = 1
      rw [if_neg (by omega), if_neg (by omega), if_neg (by omega), if_neg (by omega)]) hm ht).2.2
  have nw := frG_e h (T := T) (Z0 := f0P (tgZ T Z s c) m) (s := s) (m := m) (a := a) (le := le) (wt := wt) (N := N)
  have t13 : ∀ i : Int, tgZ T Z s c 13 i = if i = s then (if a ≤ smG le m then 1 else 0) else Z 13 i := fun i => by
    unfold tgZ
    rw [up_e, ha, hsu]
    by_cases z : i = s
    · rw [if_pos ⟨rfl, z⟩, if_pos z]
    · rw [if_neg (fun q => z q.2), if_neg z]
  have tk : ∀ (w : Nat) (i : Int), w ≠ 13 → tgZ T Z s c w i = Z w i := fun w i hw => by unfold tgZ; rw [up_e, if_neg (by omega)]
  have kdn : (kdT T s).toNat = m := by rw [hR.kds]; omega
  have okh : (-100000 ≤ c ∧ c ≤ 1000) ∧ (-1000000 ≤ ltF T Z s s ∧ ltF T Z s s ≤ 1000000) ∧ (kdT T s ≤ 16 ∧ ∀ k, 0 ≤ k ∧ k < kdT T s → 0 ≤ chT T s k) :=
    ⟨hc, by rw [hs]; omega, by rw [hR.kds]; omega, fun k hk => hR.chd k hk.1 (by rw [hR.kds] at hk; exact hk.2)⟩
  unfold shZ okS
  rw [ha, hsu, kdn]
  by_cases ht : a ≤ smG le m
  · rw [if_neg (show ¬ smG le m < a by omega)]
    have elv : lvF T Z s c = tlS m a le := by
      unfold lvF tlS
      rw [ha, hsu, kdn]
      congr 1
      exact smG_ext m (fun k k1 k2 => by show shI T Z s a (smG le m) k = _; unfold shI; rw [hR.rle k k1 k2])
    have tb := tlb ht
    rw [elv]
    have e14 : ∀ k : Int, 0 ≤ k → k < m → shL T (tgZ T Z s c) s a (smG le m) (kdT T s) 14 k = a * le k / smG le m := fun k k1 k2 => by
      unfold shL
      rw [if_pos ⟨rfl, k1, by rw [hR.kds]; exact k2⟩, hRt.rle k k1 k2]
    refine ⟨fun k k1 k2 => ?_, fun i => ?_, fun w i h13 h14 h15 => ?_, okh.1, okh.2.1, okh.2.2, fun z => by omega, fun _ => ⟨by omega, fun k hk => ?_, by omega, by omega⟩⟩
    · have p := pb k k1 k2 ht
      unfold inP
      rw [if_pos ht, e14 k k1 k2]
      unfold tsS
      by_cases y : k < tlS m a le
      · rw [if_pos ⟨rfl, k1, y⟩, if_pos y, wr_id (by omega)]
      · rw [if_neg (fun q => y q.2.2), if_neg y]; omega
    · unfold inP shL
      rw [if_neg (by omega), if_neg (by omega)]
      exact t13 i
    · unfold inP shL
      rw [if_neg (by omega), if_neg (by omega)]
      exact tk w i h13
    · have := (h.2.2 k hk.1 (by rw [hR.kds] at hk; exact hk.2)).1
      rw [hR.rle k hk.1 (by rw [hR.kds] at hk; exact hk.2)]
      omega
  · have hn : smG le m < a := by omega
    rw [if_pos hn]
    have R0 : RfQ T (f0P (tgZ T Z s c) m) s m le wt := by
      obtain ⟨r1, r2, r3, r4⟩ := hRt
      first | with_reducible refine Lk.mk ?_ | with_reducible refine RfQ.mk ?_ ?_ ?_ ?_ | with_reducible refine ShQ.mk ?_ ?_ ?_ ?_ | with_reducible refine Que.mk ?_ ?_ ?_ ?_ ?_ ?_ ?_ ?_ | with_reducible refine QuI.mk ?_ ?_ ?_ ?_ ?_ ?_ | with_reducible refine Ord.mk ?_ ?_ ?_ ?_ ?_ ?_ ?_ ?_ ?_ ?_ | with_reducible refine LnI.mk ?_ ?_ ?_ ?_ ?_ ?_ ?_ ?_ ?_ ?_ ?_ ?_ ?_ ?_ ?_ ?_ ?_ | with_reducible refine Rl.mk ?_ ?_ ?_ ?_ ?_ ?_ ?_ ?_ ?_ ?_ ?_ ?_ ?_ | with_reducible refine Wf.mk ?_ ?_ ?_ ?_ ?_ ?_ ?_ ?_ ?_ ?_ ?_ | with_reducible refine Mb.mk ?_ ?_ ?_ ?_ ?_ | constructor
      · exact r1
      · exact r2
      · intro k k1 k2
        rw [← r3 k k1 k2]
        exact ltF_cong (fun i => by unfold f0P; rw [if_neg (by omega)]) (fun i => by unfold f0P; rw [if_neg (by omega)])
      · exact r4
    have L0 : Lk (f0P (tgZ T Z s c) m) m (frS9 m a le wt 0) := by
      first | with_reducible refine Lk.mk ?_ | with_reducible refine RfQ.mk ?_ ?_ ?_ ?_ | with_reducible refine ShQ.mk ?_ ?_ ?_ ?_ | with_reducible refine Que.mk ?_ ?_ ?_ ?_ ?_ ?_ ?_ ?_ | with_reducible refine QuI.mk ?_ ?_ ?_ ?_ ?_ ?_ | with_reducible refine Ord.mk ?_ ?_ ?_ ?_ ?_ ?_ ?_ ?_ ?_ ?_ | with_reducible refine LnI.mk ?_ ?_ ?_ ?_ ?_ ?_ ?_ ?_ ?_ ?_ ?_ ?_ ?_ ?_ ?_ ?_ ?_ | with_reducible refine Rl.mk ?_ ?_ ?_ ?_ ?_ ?_ ?_ ?_ ?_ ?_ ?_ ?_ ?_ | with_reducible refine Wf.mk ?_ ?_ ?_ ?_ ?_ ?_ ?_ ?_ ?_ ?_ ?_ | with_reducible refine Mb.mk ?_ ?_ ?_ ?_ ?_ | constructor
      intro k k1 k2
      unfold f0P
      rw [if_pos ⟨rfl, k1, k2⟩]
      show (0 : Int) < 0 ↔ (1 : Int) ≠ 1
      omega
    obtain ⟨q1, q2, q3, q4, q5, q6⟩ := nw hn R0 hz hnz 18 0 (f0P (tgZ T Z s c) m) (fun _ _ _ _ => rfl) (fun _ _ => ⟨rfl, rfl⟩) L0 (by omega) (by omega)
    have elf : (sfF T s m a (tgZ T Z s c)).2 - smG (lfI (sfF T s m a (tgZ T Z s c)).1) m = lfS m a le wt (frS9 m a le wt N) := by
      unfold sfF lfS
      rw [q1]
      congr 1
      refine smG_ext m (fun k k1 k2 => ?_)
      show lfI _ k = (if frS9 m a le wt N k = 1 then paS m a le wt (frS9 m a le wt N) k else 0)
      unfold lfI
      rw [q3 k k1 k2, q2 k k1 k2]
      unfold baS
      by_cases y : frS9 m a le wt N k = 1
      · rw [if_pos y, if_pos rfl, if_pos y, if_pos y]
      · rw [if_neg y, if_neg (by omega), if_neg y]
    have lb := lfS_b (fr := frS9 m a le wt N) h hn
    have bb : ∀ k : Int, 0 ≤ k → k < m → 0 ≤ baS m a le wt (frS9 m a le wt N) k ∧ baS m a le wt (frS9 m a le wt N) k ≤ 1000 := fun k k1 k2 => by
      have l := (h.2.2 k k1 k2).1
      unfold baS
      split
      · rename_i y; exact paS_le h hn ⟨k1, k2⟩ y
      · omega
    obtain ⟨w1, w2, w3⟩ := hwG_e (fr := frS9 m a le wt N) (g := baS m a le wt (frS9 m a le wt N)) m 0 (lfS m a le wt (frS9 m a le wt N)) (sfF T s m a (tgZ T Z s c)).1 (fun j j1 j2 => by
      have b := bb j (by omega) (by omega)
      refine ⟨?_, q2 j (by omega) (by omega), by omega, by omega⟩
      show (frG T s m a 18 (f0P (tgZ T Z s c) m)).1 15 j = 0 ↔ _
      rw [q3 j (by omega) (by omega)]
      by_cases y : frS9 m a le wt N j = 1
      · rw [if_pos y]; exact ⟨fun _ => y, fun _ => rfl⟩
      · rw [if_neg y]; exact ⟨fun q => by omega, fun q => absurd q y⟩)
    refine ⟨fun k k1 k2 => ?_, fun i => ?_, fun w i h13 h14 h15 => ?_, okh.1, okh.2.1, okh.2.2, fun _ => ⟨q6, by rw [elf]; omega⟩, fun z => absurd hn z⟩
    · rw [if_neg ht]
      unfold sfZ
      rw [elf]
      refine (w1 k (by omega) (by omega)).trans ?_
      unfold shS bnS
      have ef : (fun i : Int => frS9 m a le wt N (i + ((0 : Nat) : Int))) = frS9 m a le wt N := by
        funext i; rw [show i + ((0 : Nat) : Int) = i by omega]
      rw [ef, show (k - ((0 : Nat) : Int)).toNat = k.toNat by omega]
    · unfold sfZ
      rw [elf]
      refine (w3 13 i (by omega)).trans ?_
      show (frG T s m a 18 (f0P (tgZ T Z s c) m)).1 13 i = _
      rw [q4 13 i (by omega) (by omega)]
      unfold f0P
      rw [if_neg (by omega)]
      exact t13 i
    · unfold sfZ
      rw [elf]
      refine (w3 w i h14).trans ?_
      show (frG T s m a 18 (f0P (tgZ T Z s c) m)).1 w i = _
      rw [q4 w i h14 h15]
      unfold f0P
      rw [if_neg (by omega)]
      exact tk w i h13
