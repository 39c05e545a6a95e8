/-! sharing by weights: the class's passes -/
theorem wtG_e {P : Mem} {m : Nat} {a : Int} {le wt fr : Int → Int} (h : ShOk m a le wt) (r11 : ∀ k : Int, 0 ≤ k → k < m → P 11 k = wt k) (r13 : ∀ k : Int, 0 ≤ k → k < m → P 13 k = fr k) : ∀ j : Nat, j ≤ m → wtG P j = smG (fun k => if fr k = 1 then wt k else 0) j
  | 0, _ => rfl
  | j + 1, hj => by
    have hm := h.1
    have kj := (h.2.2 j (by omega) (by omega)).2
    have e1 := smG_ge (fun k => if fr k = 1 then wt k else 0) 0 j (fun k h1 h2 => by have := (h.2.2 k h1 (by omega)).2; show 0 ≤ (if fr k = 1 then wt k else 0); split <;> omega)
    have e2 := smG_le (fun k => if fr k = 1 then wt k else 0) 1000000 j (fun k h1 h2 => by have := (h.2.2 k h1 (by omega)).2; show (if fr k = 1 then wt k else 0) ≤ 1000000; split <;> omega)
    unfold wtG smG
    rw [wtG_e h r11 r13 j (by omega), gK_in ⟨by omega, by omega⟩ (by decide), gK_in ⟨by omega, by omega⟩ (by decide), r11 j (by omega) (by omega), r13 j (by omega) (by omega)]
    exact wr_id (by split <;> omega)
theorem grG_e {P : Mem} {m : Nat} {a : Int} {le wt fr g : Int → Int} (h : ShOk m a le wt) (hn : smG le m < a) (h01 : ∀ k, fr k = 0 ∨ fr k = 1) (r10 : ∀ k : Int, 0 ≤ k → k < m → P 10 k = le k) (r11 : ∀ k : Int, 0 ≤ k → k < m → P 11 k = wt k) (r13 : ∀ k : Int, 0 ≤ k → k < m → P 13 k = fr k) (r12 : ∀ k : Int, 0 ≤ k → k < m → P 12 k = g k) :
    ∀ j : Nat, j ≤ m → (grG P (rmS m a le fr) (wgS m wt fr) j).2 = smG (fun k => if fr k = 1 ∧ paS m a le wt fr k < le k then le k else 0) j ∧
      (∀ k : Int, 0 ≤ k → k < m → (grG P (rmS m a le fr) (wgS m wt fr) j).1 13 k = if k < j then nxS m a le wt fr k else fr k) ∧
      (∀ k : Int, 0 ≤ k → k < m → (grG P (rmS m a le fr) (wgS m wt fr) j).1 12 k = if k < j ∧ fr k = 1 then (if le k ≤ paS m a le wt fr k then paS m a le wt fr k else le k) else g k) ∧
      (∀ (k : Nat) (i : Int), k ≠ 12 → k ≠ 13 → (grG P (rmS m a le fr) (wgS m wt fr) j).1 k i = P k i)
  | 0, _ => ⟨rfl, fun k h1 h2 => by rw [if_neg (by omega)]; exact r13 k h1 h2, fun k h1 h2 => by rw [if_neg (by omega)]; exact r12 k h1 h2, fun _ _ _ _ => rfl⟩
  | j + 1, hj => by
    obtain ⟨p1, p2, p3, p4⟩ := grG_e h hn h01 r10 r11 r13 r12 j (by omega)
    have hm := h.1
    have kj := h.2.2 j (by omega) (by omega)
    have rb := rmS_b h fr
    have ha := h.2.1
    have pb := paS_b h hn fr (k := j) ⟨by omega, by omega⟩
    have wb := wgS_b h fr
    have t1 := smG_ge (fun k => if fr k = 1 ∧ paS m a le wt fr k < le k then le k else 0) 0 j (fun k h1 h2 => by have := (h.2.2 k h1 (by omega)).1; show 0 ≤ (if fr k = 1 ∧ paS m a le wt fr k < le k then le k else 0); split <;> omega)
    have t2 := smG_le (fun k => if fr k = 1 ∧ paS m a le wt fr k < le k then le k else 0) 1000 j (fun k h1 h2 => by have := (h.2.2 k h1 (by omega)).1; show (if fr k = 1 ∧ paS m a le wt fr k < le k then le k else 0) ≤ 1000; split <;> omega)
    have q2 := p2 j (by omega) (by omega)
    rw [if_neg (Int.lt_irrefl _)] at q2
    have es : smG (fun k => if fr k = 1 ∧ paS m a le wt fr k < le k then le k else 0) (j + 1) = smG (fun k => if fr k = 1 ∧ paS m a le wt fr k < le k then le k else 0) j + (if fr j = 1 ∧ paS m a le wt fr j < le j then le j else 0) := rfl
    rw [grG, gK_in (k := 13) ⟨by omega, by omega⟩ (by decide), q2, es]
    by_cases z : fr j = 1
    · have w1 := wb.2.2 j (by omega) (by omega) z
      have n1 : 0 ≤ rmS m a le fr * wt j := Int.mul_nonneg (by omega) (by omega)
      have n2 : rmS m a le fr * wt j ≤ 1000 * 1000000 := Int.mul_le_mul (by omega) kj.2.2 (by omega) (by omega)
      have gp : grP P (rmS m a le fr) (wgS m wt fr) j = paS m a le wt fr j := by
        unfold grP paS
        rw [if_pos (by omega), gK_in ⟨by omega, by omega⟩ (by decide), r11 j (by omega) (by omega), wr_id (by omega), dv_e ⟨n1, by omega⟩ ⟨by omega, by omega⟩]
      rw [if_pos z, gp, gK_in (k := 10) ⟨by omega, by omega⟩ (by decide), r10 j (by omega) (by omega), p1]
      by_cases y : le j ≤ paS m a le wt fr j
      · have en : nxS m a le wt fr j = 1 := if_pos ⟨z, y⟩
        rw [if_pos y, sK_in (k := 12) ⟨by omega, by omega⟩ (by decide) (by omega), sK_in (k := 13) ⟨by omega, by omega⟩ (by decide) (by omega), wr_id (by omega)]
        refine ⟨?_, fun k h1 h2 => ?_, fun k h1 h2 => ?_, fun k i hk hk2 => ?_⟩
        · show _ + 0 = _ + _
          rw [if_neg (fun q => by omega)]
        · show up (up (grG P (rmS m a le fr) (wgS m wt fr) j).1 12 j (paS m a le wt fr j)) 13 j 1 13 k = _
          rw [up_e]
          by_cases x : k = j
          · subst x; rw [if_pos ⟨rfl, rfl⟩, if_pos (by omega), en]
          · rw [if_neg (fun q => x q.2), up_e, if_neg (by omega), p2 k h1 h2]
            by_cases v : k < j
            · rw [if_pos v, if_pos (by omega)]
            · rw [if_neg v, if_neg (by omega)]
        · show up (up (grG P (rmS m a le fr) (wgS m wt fr) j).1 12 j (paS m a le wt fr j)) 13 j 1 12 k = _
          rw [up_e, if_neg (by omega), up_e]
          by_cases x : k = j
          · subst x; rw [if_pos ⟨rfl, rfl⟩, if_pos ⟨by omega, z⟩, if_pos y]
          · rw [if_neg (fun q => x q.2), p3 k h1 h2]
            by_cases v : k < j ∧ fr k = 1
            · rw [if_pos v, if_pos (show k < ((j + 1 : Nat) : Int) ∧ fr k = 1 from ⟨by omega, v.2⟩)]
            · rw [if_neg v, if_neg (show ¬ (k < ((j + 1 : Nat) : Int) ∧ fr k = 1) from fun q => v ⟨by omega, q.2⟩)]
        · show up (up (grG P (rmS m a le fr) (wgS m wt fr) j).1 12 j (paS m a le wt fr j)) 13 j 1 k i = _
          rw [up_e, if_neg (by omega), up_e, if_neg (by omega)]; exact p4 k i hk hk2
      · have en : nxS m a le wt fr j = 0 := if_neg (fun q => y q.2)
        rw [if_neg y, sK_in (k := 12) ⟨by omega, by omega⟩ (by decide) (by omega), sK_in (k := 13) ⟨by omega, by omega⟩ (by decide) (by omega), wr_id (by omega)]
        refine ⟨?_, fun k h1 h2 => ?_, fun k h1 h2 => ?_, fun k i hk hk2 => ?_⟩
        · show _ + le j = _ + _
          rw [if_pos ⟨z, by omega⟩]
        · show up (up (grG P (rmS m a le fr) (wgS m wt fr) j).1 12 j (le j)) 13 j 0 13 k = _
          rw [up_e]
          by_cases x : k = j
          · subst x; rw [if_pos ⟨rfl, rfl⟩, if_pos (by omega), en]
          · rw [if_neg (fun q => x q.2), up_e, if_neg (by omega), p2 k h1 h2]
            by_cases v : k < j
            · rw [if_pos v, if_pos (by omega)]
            · rw [if_neg v, if_neg (by omega)]
        · show up (up (grG P (rmS m a le fr) (wgS m wt fr) j).1 12 j (le j)) 13 j 0 12 k = _
          rw [up_e, if_neg (by omega), up_e]
          by_cases x : k = j
          · subst x; rw [if_pos ⟨rfl, rfl⟩, if_pos ⟨by omega, z⟩, if_neg y]
          · rw [if_neg (fun q => x q.2), p3 k h1 h2]
            by_cases v : k < j ∧ fr k = 1
            · rw [if_pos v, if_pos (show k < ((j + 1 : Nat) : Int) ∧ fr k = 1 from ⟨by omega, v.2⟩)]
            · rw [if_neg v, if_neg (show ¬ (k < ((j + 1 : Nat) : Int) ∧ fr k = 1) from fun q => v ⟨by omega, q.2⟩)]
        · show up (up (grG P (rmS m a le fr) (wgS m wt fr) j).1 12 j (le j)) 13 j 0 k i = _
          rw [up_e, if_neg (by omega), up_e, if_neg (by omega)]; exact p4 k i hk hk2
    · have en : nxS m a le wt fr j = fr j := by
        unfold nxS
        rcases h01 j with y | y
        · rw [if_neg (fun q => z q.1), y]
        · exact absurd y z
      rw [if_neg z, if_neg (fun q => z q.1)]
      refine ⟨by rw [p1]; omega, fun k h1 h2 => ?_, fun k h1 h2 => ?_, p4⟩
      · rw [p2 k h1 h2]
        by_cases x : k = j
        · subst x; rw [if_neg (Int.lt_irrefl _), if_pos (by omega), en]
        · by_cases v : k < j
          · rw [if_pos v, if_pos (by omega)]
          · rw [if_neg v, if_neg (by omega)]
      · rw [p3 k h1 h2]
        by_cases x : k = j
        · subst x; rw [if_neg (fun q => z q.2), if_neg (fun q => z q.2)]
        · by_cases v : k < j ∧ fr k = 1
          · rw [if_pos v, if_pos (show k < ((j + 1 : Nat) : Int) ∧ fr k = 1 from ⟨by omega, v.2⟩)]
          · rw [if_neg v, if_neg (show ¬ (k < ((j + 1 : Nat) : Int) ∧ fr k = 1) from fun q => v ⟨by omega, q.2⟩)]
/-- a round -/
theorem grF_e {P Q : Mem} {m : Nat} {a : Int} {le wt fr : Int → Int} (h : ShOk m a le wt) (hn : smG le m < a) (h01 : ∀ k, fr k = 0 ∨ fr k = 1) (hQ : ShQ P m le wt) (r13 : ∀ k : Int, 0 ≤ k → k < m → P 13 k = fr k) (rk : ∀ (k : Nat) (i : Int), k ≠ 12 → k ≠ 13 → P k i = Q k i) (r12 : ∀ k : Int, 0 ≤ k → k < m → fr k ≠ 1 → P 12 k = le k) :
    (grF P (rmS m a le fr)).2 = tkS m a le wt fr ∧ ShQ (grF P (rmS m a le fr)).1 m le wt ∧ (∀ k : Int, 0 ≤ k → k < m → (grF P (rmS m a le fr)).1 13 k = nxS m a le wt fr k) ∧
      (∀ k : Int, 0 ≤ k → k < m → (grF P (rmS m a le fr)).1 12 k = if nxS m a le wt fr k = 1 then paS m a le wt fr k else le k) ∧ (∀ (k : Nat) (i : Int), k ≠ 12 → k ≠ 13 → (grF P (rmS m a le fr)).1 k i = Q k i) := by
  have w := wtG_e h hQ.rwt r13 m (Nat.le_refl _)
  obtain ⟨p1, p2, p3, p4⟩ := grG_e (g := P 12) h hn h01 hQ.rle hQ.rwt r13 (fun k _ _ => rfl) m (Nat.le_refl _)
  have e : grF P (rmS m a le fr) = grG P (rmS m a le fr) (wgS m wt fr) m := by
    unfold grF
    rw [hQ.cnt, show ((m : Nat) : Int).toNat = m from by omega, w]
    rfl
  rw [e]
  refine ⟨p1, ?_, fun k h1 h2 => by rw [p2 k h1 h2, if_pos h2], fun k h1 h2 => ?_, fun k i h1 h2 => by rw [p4 k i h1 h2, rk k i h1 h2]⟩
  · first | with_reducible refine ShQ.mk ?_ ?_ ?_ ?_ | with_reducible refine Que.mk ?_ ?_ ?_ ?_ ?_ ?_ ?_ ?_ | with_reducible refine QuI.mk ?_ ?_ ?_ ?_ ?_ ?_ | with_reducible refine Ord.mk ?_ ?_ ?_ ?_ ?_ ?_ ?_ ?_ ?_ ?_ | with_reducible refine LnI.mk ?_ ?_ ?_ ?_ ?_ ?_ ?_ ?_ ?_ ?_ ?_ ?_ ?_ ?_ ?_ ?_ ?_ | with_reducible refine Rl.mk ?_ ?_ ?_ ?_ ?_ ?_ ?_ ?_ ?_ ?_ ?_ ?_ ?_ | with_reducible refine Wf.mk ?_ ?_ ?_ ?_ ?_ ?_ ?_ ?_ ?_ ?_ ?_ | with_reducible refine Mb.mk ?_ ?_ ?_ ?_ ?_ | constructor
    · rw [p4 9 _ (by omega) (by omega)]; exact hQ.cnt
    · rw [p4 9 _ (by omega) (by omega)]; exact hQ.ned
    · intro k h1 h2; rw [p4 10 _ (by omega) (by omega)]; exact hQ.rle k h1 h2
    · intro k h1 h2; rw [p4 11 _ (by omega) (by omega)]; exact hQ.rwt k h1 h2
  · have r := r12 k h1 h2
    rw [p3 k h1 h2]
    unfold nxS
    generalize paS m a le wt fr k = pk
    clear p1 p2 p3 p4 e w r12 r13 rk h01
    grind
/-- by weights: the class's way -/
theorem gwF_e {Q : Mem} {m : Nat} {a : Int} {le wt : Int → Int} (h : ShOk m a le wt) (hQ : ShQ Q m le wt) (h1 : ∀ k : Int, 0 ≤ k → k < m → Q 13 k = 1) (hn : smG le m < a) {N : Nat} (hN : N ≤ m) (hz : nwS m a le wt (frS9 m a le wt N) = 0) (hnz : ∀ i : Nat, i < N → nwS m a le wt (frS9 m a le wt i) ≠ 0) :
    (∀ k : Int, 0 ≤ k → k < m → gwF Q a 12 k = shS m a le wt (frS9 m a le wt N) k) ∧ (∀ (k : Nat) (i : Int), k ≠ 12 → k ≠ 13 → gwF Q a k i = Q k i) := by
  have hm16 := h.1
  have ha := h.2.1
  have rm0 : rmS m a le (frS9 m a le wt 0) = a := by
    unfold rmS
    rw [smG_zero m (fun k _ _ => by show (if (1 : Int) = 1 then 0 else le k) = 0; rw [if_pos rfl])]
    omega
  -- the running rounds
  have run : ∀ j : Nat, j ≤ N → (gwG Q a j).2.1 = rmS m a le (frS9 m a le wt j) ∧ 0 < (gwG Q a j).2.2 ∧ ShQ (gwG Q a j).1 m le wt ∧ (∀ k : Int, 0 ≤ k → k < m → (gwG Q a j).1 13 k = frS9 m a le wt j k) ∧ (∀ k : Int, 0 ≤ k → k < m → frS9 m a le wt j k ≠ 1 → (gwG Q a j).1 12 k = le k) ∧ (∀ (k : Nat) (i : Int), k ≠ 12 → k ≠ 13 → (gwG Q a j).1 k i = Q k i) := by
    intro j
    induction j with
    | zero => intro _; exact ⟨rm0.symm, by show (0 : Int) < 1; omega, hQ, h1, fun k _ _ z => absurd rfl z, fun _ _ _ _ => rfl⟩
    | succ j ih =>
      intro hj
      obtain ⟨p1, p2, p3, p4, p5, p6⟩ := ih (by omega)
      obtain ⟨g1, g2, g3, g4, g5⟩ := grF_e (Q := Q) h hn (frS9_01 m a le wt j) p3 p4 p6 p5
      have nt := nwS_tkS h (frS9 m a le wt j)
      have nz := hnz j (by omega)
      have tz : tkS m a le wt (frS9 m a le wt j) ≠ 0 := fun y => nz (nt.1.mpr y)
      have rn : rmS m a le (frS9 m a le wt (j + 1)) = rmS m a le (frS9 m a le wt j) - tkS m a le wt (frS9 m a le wt j) := rmS_nx
      have rb := rmS_b h (frS9 m a le wt j)
      rw [gwG, if_pos p2, p1, g1, wr_id (by omega)]
      refine ⟨rn.symm, by show 0 < tkS m a le wt (frS9 m a le wt j); omega, g2, g3, fun k k1 k2 z => ?_, g5⟩
      have := g4 k k1 k2
      have z : nxS m a le wt (frS9 m a le wt j) k ≠ 1 := z
      rw [if_neg z] at this
      exact this
  -- the last one
  obtain ⟨p1, p2, p3, p4, p5, p6⟩ := run N (Nat.le_refl _)
  obtain ⟨g1, g2, g3, g4, g5⟩ := grF_e (Q := Q) h hn (frS9_01 m a le wt N) p3 p4 p6 p5
  have nt := nwS_tkS h (frS9 m a le wt N)
  have tz : tkS m a le wt (frS9 m a le wt N) = 0 := nt.1.mp hz
  have rb := rmS_b h (frS9 m a le wt N)
  have last : gwG Q a (N + 1) = ((grF (gwG Q a N).1 (rmS m a le (frS9 m a le wt N))).1, rmS m a le (frS9 m a le wt N), 0) := by
    rw [gwG, if_pos p2, p1, g1, tz, wr_id (by omega)]
    simp
  have stay : ∀ d : Nat, gwG Q a (N + 1 + d) = ((grF (gwG Q a N).1 (rmS m a le (frS9 m a le wt N))).1, rmS m a le (frS9 m a le wt N), 0) := by
    intro d
    induction d with
    | zero => exact last
    | succ d ih =>
      show gwG Q a (N + 1 + d + 1) = _
      rw [gwG, ih, if_neg (by show ¬ (0 : Int) < 0; omega)]
  have eE : gwE Q a = ((grF (gwG Q a N).1 (rmS m a le (frS9 m a le wt N))).1, rmS m a le (frS9 m a le wt N), 0) := by
    unfold gwE
    rw [hQ.cnt, show ((m : Int) + 1).toNat = N + 1 + (m - N) from by omega]
    exact stay _
  generalize hX : (grF (gwG Q a N).1 (rmS m a le (frS9 m a le wt N))).1 = X at *
  have x13 : ∀ k : Int, 0 ≤ k → k < m → X 13 k = frS9 m a le wt N k := fun k k1 k2 => by rw [g3 k k1 k2]; exact nxS_eq (frS9_01 m a le wt N) hz ⟨k1, k2⟩
  have x12 : ∀ k : Int, 0 ≤ k → k < m → X 12 k = baS m a le wt (frS9 m a le wt N) k := fun k k1 k2 => by
    rw [g4 k k1 k2, nxS_eq (frS9_01 m a le wt N) hz ⟨k1, k2⟩]; rfl
  have bb : ∀ k : Int, 0 ≤ k → k < m → 0 ≤ baS m a le wt (frS9 m a le wt N) k ∧ baS m a le wt (frS9 m a le wt N) k ≤ 1000000000 := fun k k1 k2 => by
    have p := paS_b h hn (frS9 m a le wt N) (k := k) ⟨k1, k2⟩
    have l := (h.2.2 k k1 k2).1
    unfold baS
    split <;> omega
  -- free parts: no more than the room
  have fb : ∀ k : Int, 0 ≤ k → k < m → frS9 m a le wt N k = 1 → wgS m wt (frS9 m a le wt N) * paS m a le wt (frS9 m a le wt N) k ≤ rmS m a le (frS9 m a le wt N) * wt k := by
    intro k k1 k2 k3
    have w := (wgS_b h (frS9 m a le wt N)).2.2 k k1 k2 k3
    have d0 := Int.emod_def (rmS m a le (frS9 m a le wt N) * wt k) (wgS m wt (frS9 m a le wt N))
    have d1 := Int.emod_nonneg (rmS m a le (frS9 m a le wt N) * wt k) (show wgS m wt (frS9 m a le wt N) ≠ 0 by omega)
    unfold paS
    omega
  have fp : ∀ k : Int, 0 ≤ k → k < m → frS9 m a le wt N k = 1 → paS m a le wt (frS9 m a le wt N) k ≤ 1000 := by
    intro k k1 k2 k3
    have w := wgS_b h (frS9 m a le wt N)
    have w1 := w.2.2 k k1 k2 k3
    have wk := smG_pos (f := fun k => if frS9 m a le wt N k = 1 then wt k else 0) (m := m) (k := k) (fun o o1 o2 => by have := (h.2.2 o o1 o2).2; show 0 ≤ (if frS9 m a le wt N o = 1 then wt o else 0); split <;> omega) ⟨k1, k2⟩
    have wk : (if frS9 m a le wt N k = 1 then wt k else 0) ≤ wgS m wt (frS9 m a le wt N) := wk
    rw [if_pos k3] at wk
    have f := fb k k1 k2 k3
    have e : rmS m a le (frS9 m a le wt N) * wt k ≤ rmS m a le (frS9 m a le wt N) * wgS m wt (frS9 m a le wt N) := Int.mul_le_mul_of_nonneg_left wk (by omega)
    rw [Int.mul_comm (rmS m a le (frS9 m a le wt N)) (wgS m wt (frS9 m a le wt N))] at e
    have := Int.le_of_mul_le_mul_left (Int.le_trans f e) (by omega)
    omega
  have lw : ∀ j : Nat, j ≤ m → lwG X (rmS m a le (frS9 m a le wt N)) j = rmS m a le (frS9 m a le wt N) - smG (fun k => if frS9 m a le wt N k = 1 then paS m a le wt (frS9 m a le wt N) k else 0) j := by
    intro j
    induction j with
    | zero => intro _; show _ = _ - 0; unfold lwG; omega
    | succ j ih =>
      intro hj
      have t1 := smG_ge (fun k => if frS9 m a le wt N k = 1 then paS m a le wt (frS9 m a le wt N) k else 0) 0 j (fun k k1 k2 => by have := paS_b h hn (frS9 m a le wt N) (k := k) ⟨k1, by omega⟩; show 0 ≤ (if frS9 m a le wt N k = 1 then paS m a le wt (frS9 m a le wt N) k else 0); split <;> omega)
      have t2 := smG_le (fun k => if frS9 m a le wt N k = 1 then paS m a le wt (frS9 m a le wt N) k else 0) 1000 j (fun k k1 k2 => by
        show (if frS9 m a le wt N k = 1 then paS m a le wt (frS9 m a le wt N) k else 0) ≤ 1000
        split
        · rename_i y; exact fp k k1 (by omega) y
        · omega)
      have pj := paS_b h hn (frS9 m a le wt N) (k := j) ⟨by omega, by omega⟩
      have es : smG (fun k => if frS9 m a le wt N k = 1 then paS m a le wt (frS9 m a le wt N) k else 0) (j + 1) = smG (fun k => if frS9 m a le wt N k = 1 then paS m a le wt (frS9 m a le wt N) k else 0) j + (if frS9 m a le wt N j = 1 then paS m a le wt (frS9 m a le wt N) j else 0) := rfl
      unfold lwG
      rw [ih (by omega), gK_in ⟨by omega, by omega⟩ (by decide), gK_in ⟨by omega, by omega⟩ (by decide), x13 j (by omega) (by omega), x12 j (by omega) (by omega), es]
      unfold baS
      by_cases y : frS9 m a le wt N j = 1
      · rw [if_pos y, if_pos y, if_pos y, wr_id (by omega)]; omega
      · rw [if_neg y, if_neg y, wr_id (by omega)]; omega
  have lm := lw m (Nat.le_refl _)
  have el : lwG X (rmS m a le (frS9 m a le wt N)) m = lfS m a le wt (frS9 m a le wt N) := lm
  have t1 := smG_ge (fun k => if frS9 m a le wt N k = 1 then paS m a le wt (frS9 m a le wt N) k else 0) 0 m (fun k k1 k2 => by have := paS_b h hn (frS9 m a le wt N) (k := k) ⟨k1, k2⟩; show 0 ≤ (if frS9 m a le wt N k = 1 then paS m a le wt (frS9 m a le wt N) k else 0); split <;> omega)
  have t2 := smG_le (fun k => if frS9 m a le wt N k = 1 then paS m a le wt (frS9 m a le wt N) k else 0) 1000 m (fun k k1 k2 => by
    show (if frS9 m a le wt N k = 1 then paS m a le wt (frS9 m a le wt N) k else 0) ≤ 1000
    split
    · rename_i y; exact fp k k1 k2 y
    · omega)
  unfold gwF hoF
  rw [eE]
  show (∀ k : Int, 0 ≤ k → k < m → (hoG X (lwG X (rmS m a le (frS9 m a le wt N)) (Q 9 4).toNat) (X 9 4).toNat).1 12 k = _) ∧ (∀ (k : Nat) (i : Int), k ≠ 12 → k ≠ 13 → (hoG X (lwG X (rmS m a le (frS9 m a le wt N)) (Q 9 4).toNat) (X 9 4).toNat).1 k i = Q k i)
  rw [hQ.cnt, g2.cnt, show ((m : Nat) : Int).toNat = m from by omega, el]
  obtain ⟨q1, q2, q3⟩ := hoG_e (P := X) (c := lfS m a le wt (frS9 m a le wt N)) (fr := frS9 m a le wt N) (g := baS m a le wt (frS9 m a le wt N)) hm16 (by rw [← el, lm]; omega) x13 (fun k k1 k2 => ⟨x12 k k1 k2, by have := bb k k1 k2; omega, by have := bb k k1 k2; omega⟩) m (Nat.le_refl _)
  refine ⟨fun k k1 k2 => by rw [q2 k k1 k2, if_pos k2]; rfl, fun k i k1 k2 => by rw [q3 k i k1, g5 k i k1 k2]⟩
