/-! THE CHANGES: the window, least sizes, panes, what is active -/
section OPS
variable {N : Int} {mu : Mem} {c h t p b q r : Nat}
/-- a class that laid its plan anew -/
theorem Inv.cls2 {M : Int} {m : Mem} {s' : Int → Int} (O : Od c h t p b q r) (A : Inv N mu c h t p b r) (hN : N ≤ M) (st : RS M m c s') (eo : ∀ (x : Nat) (i : Int), x < c ∨ c + 49 ≤ x → m x i = pshM mu c h x i) (B : BA M (rowsC c h b) m) (R : R32 m) :
    CR M (stlM m p c) c h t p b s' (pushP (mu (r + 2)) (mu (r + 1)) (mu r 4)) (mu (r + 5)) (min (mu r 4 + 1) 4) (mu r 6) ∧ R32 (stlM m p c) ∧ ∀ (x : Nat) (i : Int), r ≤ x → stlM m p c x i = mu x i := by
  obtain ⟨p1, p2, p3, p4, p5, p6, p7⟩ := A.psh O
  have O' := O
  obtain ⟨o1, o2, o3, o4, o5, o6⟩ := O'
  have := CR.settle O st ((p2.mono hN).off (fun x i h1 h2 => eo x i (by omega)) (fun _ _ _ => rfl)) (p3.off fun x i hx => eo x i (by omega)) (by rw [eo _ _ (by omega)]; exact p4) B R
  refine ⟨this.1, this.2, fun x i hx => ?_⟩
  rw [stlM_x _ _ (by omega), eo _ _ (by omega), p7 _ _ (by omega)]
theorem MWo.off {mu mu1 : Mem} {r : Nat} (A : MWo mu r) (R : R32 mu1) (e : ∀ (x : Nat) (i : Int), r ≤ x → mu1 x i = mu x i) : MWo mu1 r := by
  refine ⟨R, ?_, ?_, ?_, ?_⟩
  · rw [trT_off e]; exact A.2.1
  · rw [e _ _ (by omega)]; exact A.2.2.1
  · rw [e _ _ (by omega)]; exact A.2.2.2.1
  · rw [e _ _ (by omega)]; exact A.2.2.2.2
/-- the window -/
theorem fw0 {x y : Int} (hf : fwF x y = 0) : (20 ≤ x ∧ x ≤ 400) ∧ 20 ≤ y ∧ y ≤ 400 := by unfold fwF at hf; split at hf <;> omega
theorem O_window (O : Od c h t p b q r) (A : Inv N mu c h t p b r) (hN : 1000000 ≤ N ∧ N ≤ 10000000) {x y : Int} (hf : fwF x y = 0) {mu1 : Mem} (e1 : mu1 = stlM (up (up (pshM mu c h) c 0 x) c 1 y) p c) :
    1000 * (pshM mu c h) c 0 + (pshM mu c h) c 1 = 1000 * mu1 (r + 1) 0 + mu1 (r + 1) 1 ∧ MWo mu1 r ∧ Inv (N + 20) (swM mu1 r x y) c h t p b r ∧ swM mu1 r x y r 7 = 0 := by
  obtain ⟨f1, f2⟩ := fw0 hf
  obtain ⟨p1, p2, p3, p4, p5, p6, p7⟩ := A.psh O
  have mw := A.mw (by omega)
  have o1 := O.1
  have st : RS N (up (up (pshM mu c h) c 0 x) c 1 y) c (fun i => if i = 1 then y else if i = 0 then x else mu (r + 1) i) := by
    have off : ∀ (k : Nat) (i : Int), k ≠ c → up (up (pshM mu c h) c 0 x) c 1 y k i = pshM mu c h k i := fun k i hk => by rw [up_a _ _ _ _ hk, up_a _ _ _ _ hk]
    have c2 : up (up (pshM mu c h) c 0 x) c 1 y c 2 = pshM mu c h c 2 := by rw [up_e, if_neg (by omega), up_e, if_neg (by omega)]
    have eL : ∀ b', b' + 1 > c → Jvm.Pilot.CDockTreeLaw_law_r5321_3fbd41.lay (up (up (pshM mu c h) c 0 x) c 1 y) b' = Jvm.Pilot.CDockTreeLaw_law_r5321_3fbd41.lay (pshM mu c h) b' := fun b' hb => by
      funext k i
      show (if _ then _ else _) = (if _ then _ else _)
      split
      · exact off _ _ (by omega)
      · rfl
    obtain ⟨a1, a2, a3, a4, a5, a6, a7, a8⟩ := p1
    refine RS.mk ?_ ?_ ?_ ?_ ?_ ?_ ?_ ?_
    · rw [up_e, if_neg (by omega), up_e, if_pos ⟨rfl, rfl⟩]
      exact ⟨by rw [if_neg (by omega), if_pos rfl], by omega, by omega⟩
    · rw [up_e, if_pos ⟨rfl, rfl⟩]
      exact ⟨by rw [if_pos rfl], by omega, by omega⟩
    · rw [c2]; exact ⟨by rw [if_neg (by omega), if_neg (by omega)]; exact a3.1, a3.2⟩
    · intro i h1 h2
      rw [off _ _ (by omega)]
      have := a4 i h1 h2
      exact ⟨by rw [if_neg (by omega), if_neg (by omega)]; exact this.1, this.2⟩
    · intro k ax h1 h2 ha
      rw [c2] at h2
      rw [off _ _ (by omega)]; exact a5 k ax h1 h2 ha
    · rw [c2, eL _ (by omega)]
      exact a6.c (fun _ _ _ _ _ => rfl) (fun i h1 h2 => by show (if _ then _ else _) = _; rw [if_neg (by omega), if_neg (by omega)]) a3.2.1
    · intro j hj
      rw [off _ _ (by omega)]
      have := a7 j hj
      exact ⟨by rw [if_neg (by omega), if_neg (by omega)]; exact this.1, this.2⟩
    · intro j hj hh
      rw [off _ _ (by omega)] at hh
      rw [c2, eL _ (by omega)]
      exact (a8 j hj hh).c (fun _ _ _ _ _ => rfl) (fun i h1 h2 => by show (if _ then _ else _) = _; rw [if_neg (by omega), if_neg (by omega)]) a3.2.1
  obtain ⟨c1, c2, c3⟩ := A.cls2 (M := N + 20) O (by omega) (st.mono (by omega)) (fun k i hk => by rw [up_a _ _ _ _ (by omega), up_a _ _ _ _ (by omega)]) (((p5.up c 0 (v := x) (fun _ => by omega)).up c 1 (v := y) (fun _ => by omega)).mono (by omega)) (R32_up (R32_up p6 _ _ (by omega)) _ _ (by omega))
  rw [← e1] at c1 c2 c3
  have I := Inv.ref O A.1.hy.cnt.2 c1 c3 (m := up (up (hdM mu1 r) (r + 1) 0 x) (r + 1) 1 y) (R32_up (R32_up (hdM_R c2 r) _ _ (by omega)) _ _ (by omega)) (fun k i h1 h2 => by rw [up_a _ _ _ _ h1, up_a _ _ _ _ h1]) (fun i h1 h2 => by
    rw [up_e, up_e, hdM_x _ _ (by omega), c3 _ _ (by omega)]
    show _ = (if _ then _ else _)
    by_cases a : i = 1
    · rw [if_pos ⟨rfl, a⟩, if_pos a]
    · rw [if_neg (by omega), if_neg a]
      by_cases b : i = 0
      · rw [if_pos ⟨rfl, b⟩, if_pos b]
      · rw [if_neg (by omega), if_neg b])
  refine ⟨?_, mw.off c2 c3, I.1, I.2⟩
  rw [c3 _ _ (by omega), c3 _ _ (by omega), p1.wid.1, p1.hig.1]
/-- least sizes: a state with other least sizes, and perhaps more panes -/
theorem RS.least {M : Int} {m m' : Mem} {s s' : Int → Int} (A : RS N m c s) (hN : N ≤ M) {pp w v P : Int} (hp : 0 ≤ pp ∧ pp < P) (hP : m c 2 ≤ P ∧ P ≤ 16 ∧ (P = m c 2 ∨ P = m c 2 + 1 ∧ pp = m c 2)) (hw : 1 ≤ w ∧ w ≤ 60) (hv : 1 ≤ v ∧ v ≤ 60)
    (e0 : m' c 0 = m c 0 ∧ m' c 1 = m c 1 ∧ m' c 2 = P) (e1 : ∀ i : Int, 0 ≤ i → i < 32 → m' (c + 1) i = if i = 2 * pp + 1 then v else if i = 2 * pp then w else m (c + 1) i) (e2 : ∀ (x : Nat) (i : Int), c + 2 ≤ x → x < c + 49 → m' x i = m x i)
    (s0 : s' 2 = P) (s1 : ∀ i : Int, 0 ≤ i → i < 32 → s' (3 + i) = if i = 2 * pp + 1 then v else if i = 2 * pp then w else s (3 + i)) (s2 : ∀ i : Int, 0 ≤ i → i < 2 → s' i = s i) (s3 : LR M (Jvm.Pilot.CDockTreeLaw_law_r5321_3fbd41.lay m (c + 2)) (trS s' 35) (m c 2)) (s4 : ∀ i : Int, 355 ≤ i → i < 1639 → s' i = s i) : RS M m' c s' := by
  have eL : ∀ b', c + 2 ≤ b' → b' + 8 < c + 49 → EqL (Jvm.Pilot.CDockTreeLaw_law_r5321_3fbd41.lay m b') (Jvm.Pilot.CDockTreeLaw_law_r5321_3fbd41.lay m' b') := fun b' h1 h2 k i hk _ _ => by
    rw [lay_e hk, lay_e hk]; exact e2 _ _ (by omega) (by omega)
  obtain ⟨a1, a2, a3, a4, a5, a6, a7, a8⟩ := A
  refine RS.mk ?_ ?_ ?_ ?_ ?_ ?_ ?_ ?_
  · rw [e0.1, s2 0 (by omega) (by omega)]; exact a1
  · rw [e0.2.1, s2 1 (by omega) (by omega)]; exact a2
  · rw [e0.2.2]; exact ⟨s0.symm, by omega, hP.2.1⟩
  · intro i h1 h2
    rw [e1 i h1 h2, s1 i h1 h2]
    have := a4 i h1 h2
    (repeat' split) <;> omega
  · intro k ax h1 h2 ha
    rw [e0.2.2] at h2
    rw [e1 _ (by omega) (by omega)]
    by_cases z : k < m c 2
    · have := a5 k ax h1 z ha
      (repeat' split) <;> omega
    · (repeat' split) <;> omega
  · rw [e0.2.2]
    obtain ⟨⟨u, R⟩, F, C, V, B⟩ := s3
    exact LR.mk ⟨u, R.c (eL _ (by omega) (by omega)) (fun _ _ _ _ _ => rfl)⟩ (F.c (eL _ (by omega) (by omega))) (fun y h1 h2 => Cl.c C (eL _ (by omega) (by omega)) a3.2.1 y (by omega) h2) (V.c (eL _ (by omega) (by omega))) B
  · intro j hj
    rw [e2 _ _ (by omega) (by omega), s4 _ (by omega) (by omega)]; exact a7 j hj
  · intro j hj hh
    rw [e2 _ _ (by omega) (by omega)] at hh
    rw [e0.2.2]
    exact ((a8 j hj hh).c (eL _ (by omega) (by omega)) (fun i h1 h2 => s4 _ (by omega) (by omega)) a3.2.1).mono hN hP.1
theorem sKe {P : Mem} {k m : Nat} {i v : Int} (h : 0 ≤ i ∧ i < m) (hm : m ≤ 1000) (hv : -2147483648 ≤ v ∧ v ≤ 2147483647) : sK P k m i v = up P k i v := by
  unfold sK puF
  rw [wr_id (by omega), wr_id (by omega), if_pos h]
theorem clM_e {m : Mem} {pp w v : Int} (hp : 0 ≤ pp ∧ pp < 16) (hw : 1 ≤ w ∧ w ≤ 60) (hv : 1 ≤ v ∧ v ≤ 60) : clM m c pp w v = up (up m (c + 1) (2 * pp) w) (c + 1) (2 * pp + 1) v := by
  unfold clM
  rw [Int.add_zero, sKe (by omega) (by omega) (by omega), sKe (by omega) (by omega) (by omega)]
theorem O_least_f (A : Inv N mu c h t p b r) (x y z : Int) : slF9 (mu (r + 1) 2) x y z = slF mu c x y z := by
  obtain ⟨e, P, -⟩ := A.base
  unfold slF9 slF pnF feF
  rw [e]
  (repeat' split) <;> omega
theorem slz {x y z : Int} (hf : slF mu c x y z = 0) : (0 ≤ x ∧ x < mu c 2) ∧ (1 ≤ y ∧ y ≤ 60) ∧ 1 ≤ z ∧ z ≤ 60 := by
  unfold slF feF at hf
  split at hf
  · rename_i k
    split at hf
    · rename_i w; exact ⟨pn1.mp k, by omega, by omega⟩
    · omega
  · omega
theorem O_least (O : Od c h t p b q r) (A : Inv N mu c h t p b r) (hN : 1000000 ≤ N ∧ N ≤ 10000000) {x y z : Int} (hf : slF mu c x y z = 0) {mu1 : Mem} (e1 : mu1 = stlM (clM (pshM mu c h) c x y z) p c) :
    1000 * gK (pshM mu c h) (c + 1) 32 (2 * x + 0) + gK (pshM mu c h) (c + 1) 32 (2 * x + 1) = 1000 * mu1 (r + 1) (3 + 2 * x) + mu1 (r + 1) (3 + 2 * x + 1) ∧ mu1 (r + 1) 2 = mu (r + 1) 2 ∧ MWo mu1 r ∧ Inv (N + 20) (slM mu1 r x y z) c h t p b r ∧ slM mu1 r x y z r 7 = 0 := by
  obtain ⟨f1, f2, f3⟩ := slz hf
  obtain ⟨p1, p2, p3, p4, p5, p6, p7⟩ := A.psh O
  obtain ⟨eb, P, -⟩ := A.base
  have mw := A.mw (by omega)
  have o1 := O.1
  have e2 : pshM mu c h c 2 = mu c 2 := p7 _ _ (by omega)
  have cl := clM_e (m := pshM mu c h) (c := c) (pp := x) (w := y) (v := z) (by omega) f2 f3
  have st : RS (N + 20) (clM (pshM mu c h) c x y z) c (fun i => if i = 3 + 2 * x + 1 then z else if i = 3 + 2 * x then y else mu (r + 1) i) := by
    rw [cl]
    have sm : ∀ i : Int, i < 3 ∨ 35 ≤ i → (fun i => if i = 3 + 2 * x + 1 then z else if i = 3 + 2 * x then y else mu (r + 1) i) i = mu (r + 1) i := fun i hi => by
      show (if _ then _ else _) = _
      rw [if_neg (by omega), if_neg (by omega)]
    refine p1.least (P := mu c 2) (pp := x) (w := y) (v := z) (by omega) f1 (by omega) f2 f3 ⟨by rw [up_a _ _ _ _ (by omega), up_a _ _ _ _ (by omega)], by rw [up_a _ _ _ _ (by omega), up_a _ _ _ _ (by omega)], by rw [up_a _ _ _ _ (by omega), up_a _ _ _ _ (by omega), e2]⟩ (fun i h1 h2 => ?_) (fun k i h1 h2 => ?_) ?_ (fun i h1 h2 => ?_) (fun i h1 h2 => sm i (by omega)) ((p1.lyt.mono (by omega) (Int.le_refl _)).c (fun _ _ _ _ _ => rfl) (fun i h1 h2 => sm _ (by omega)) p1.pan.2.1) (fun i h1 h2 => sm i (by omega))
    · rw [up_e, up_e]
      by_cases a : i = 2 * x + 1
      · rw [if_pos ⟨rfl, a⟩, if_pos a]
      · rw [if_neg (by omega), if_neg a]
        by_cases b : i = 2 * x
        · rw [if_pos ⟨rfl, b⟩, if_pos b]
        · rw [if_neg (by omega), if_neg b]
    · rw [up_a _ _ _ _ (by omega), up_a _ _ _ _ (by omega)]
    · exact (sm 2 (by omega)).trans eb
    · show (if _ then _ else _) = _
      by_cases a : i = 2 * x + 1
      · rw [if_pos (by omega), if_pos a]
      · rw [if_neg (by omega), if_neg a]
        by_cases b : i = 2 * x
        · rw [if_pos (by omega), if_pos b]
        · rw [if_neg (by omega), if_neg b]
  obtain ⟨c1, c2, c3⟩ := A.cls2 (M := N + 20) O (by omega) st (fun k i hk => by rw [cl, up_a _ _ _ _ (by omega), up_a _ _ _ _ (by omega)]) (by rw [cl]; exact ((p5.up _ _ (v := y) (fun _ => by omega)).up _ _ (v := z) (fun _ => by omega)).mono (by omega)) (by rw [cl]; exact R32_up (R32_up p6 _ _ (by omega)) _ _ (by omega))
  rw [← e1] at c1 c2 c3
  have I := Inv.ref O A.1.hy.cnt.2 c1 c3 (m := up (up (hdM mu1 r) (r + 1) (3 + 2 * x) y) (r + 1) (3 + 2 * x + 1) z) (R32_up (R32_up (hdM_R c2 r) _ _ (by omega)) _ _ (by omega)) (fun k i h1 h2 => by rw [up_a _ _ _ _ h1, up_a _ _ _ _ h1]) (fun i h1 h2 => by
    rw [up_e, up_e, hdM_x _ _ (by omega), c3 _ _ (by omega)]
    show _ = (if _ then _ else _)
    by_cases a : i = 3 + 2 * x + 1
    · rw [if_pos ⟨rfl, a⟩, if_pos a]
    · rw [if_neg (by omega), if_neg a]
      by_cases b : i = 3 + 2 * x
      · rw [if_pos ⟨rfl, b⟩, if_pos b]
      · rw [if_neg (by omega), if_neg b])
  refine ⟨?_, by rw [c3 _ _ (by omega)], mw.off c2 c3, I.1, I.2⟩
  have g : ∀ i : Int, 0 ≤ i → i < 32 → gK (pshM mu c h) (c + 1) 32 i = mu (r + 1) (3 + i) := fun i h1 h2 => by
    unfold gK
    rw [wr_id (by omega)]
    show (if _ then _ else _) = _
    rw [if_pos ⟨h1, by omega⟩]
    exact (p1.lst i h1 h2).1
  rw [c3 _ _ (by omega), c3 _ _ (by omega), g _ (by omega) (by omega), g _ (by omega) (by omega), Int.add_zero, show 3 + 2 * x + 1 = 3 + (2 * x + 1) by omega]
end OPS
