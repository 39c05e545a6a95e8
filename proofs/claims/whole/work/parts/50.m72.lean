/-! A RUN OF COMMANDS: each command on both sides -/
section SS
variable {N : Int} {m w : Mem} {c h t p b q r : Nat} {s0 past : Int → Int} {np : Int}
theorem JR.lay {L' T' : Mem} {v : Int} (O : Od c h t p b q r) (J : JR N m w c h t b r s0 past np) (hN : 1000000 ≤ N ∧ N ≤ 10000000) (l : LR (N + 20) L' T' (m c 2)) (B : Bd (N + 20) L') (hv : -2147483648 ≤ v ∧ v ≤ 2147483647) : JR (N + 20) (putL m (c + 2) L') (ptT (up w r 19 v) r T') c h t b r s0 past np := by
  have e : ptT (up w r 19 v) r T' (r + 1) = ptS (w (r + 1)) T' := funext fun i => by
    rw [ptT_1, show up w r 19 v (r + 1) = w (r + 1) from funext fun j => up_a _ _ _ _ (by omega)]
  refine J.put O (by omega) ?_ (fun x i hx => putL_x (by omega) i) ((J.ba.mono (by omega)).putL B) (R32_putL J.rc (B.r32 (by omega))) (R32_ptT (R32_up J.rr _ _ hv) l.tb (by omega)) (fun x i h1 h2 => by rw [ptT_x _ _ _ h1, up_e, if_neg h2])
  rw [e]
  exact J.st.lay (by omega) (l.cT (trS_ptS _ _) (l.tb.pt _)) fun i h1 h2 h3 => ptS_x _ _ h3
theorem JR.hc (O : Od c h t p b q r) : c < p ∧ c + 12 < p := by unfold Od at O; omega
theorem s_edge (O : Od c h t p b q r) (J : JR N m w c h t b r s0 past np) (hN : 1000000 ≤ N ∧ N ≤ 10000000) (x z : Int) : egF (w (r + 1) 2) x z = fgF m c x z ∧ (fgF m c x z = 0 → okE (trT w r) (w (r + 1) 2) x z ∧
    JR (N + 20) (putL m (c + 2) (dwF (lay m (c + 2)) x z)) (ptT (up w r 19 (ctT (egC (trT w r) (w (r + 1) 2) x z) 1)) r (egC (trT w r) (w (r + 1) 2) x z)) c h t b r s0 past np) := by
  obtain ⟨e, P, Lr, B⟩ := J.base (by omega)
  refine ⟨?_, fun hf => ?_⟩
  · have f := O_edge_f (J.vi O) x z
    rw [vi_r] at f
    rw [f]
    unfold fgF pnF
    rw [vi_c O m w (JR.hc O).1]
  · obtain ⟨f1, f2⟩ := fg0 hf
    obtain ⟨l1, l2⟩ := Lr.edge f1 f2 P.2 (by omega)
    have cb := ctT_b (egC (trT w r) (m c 2) x z) 1
    rw [e]
    exact ⟨l2, J.lay O hN (l1.mono (by omega) (Int.le_refl _)) ((dwF_bd B (by omega) (by omega) z).mono (by omega)) (by omega)⟩
theorem s_dock (O : Od c h t p b q r) (J : JR N m w c h t b r s0 past np) (hN : 1000000 ≤ N ∧ N ≤ 10000000) (x y z : Int) : mcF (trT w r) (w (r + 1) 2) x y z = fdF m c x y z ∧ (fdF m c x y z = 0 → okD (trT w r) (w (r + 1) 2) x y z ∧
    JR (N + 20) (putL m (c + 2) (dkF (lay m (c + 2)) x y z)) (ptT (up w r 19 (dkA (trT w r) (w (r + 1) 2) x y z)) r (dkT (trT w r) (w (r + 1) 2) x y z)) c h t b r s0 past np) := by
  obtain ⟨e, P, Lr, B⟩ := J.base (by omega)
  refine ⟨?_, fun hf => ?_⟩
  · have f := O_dock_f (J.vi O) x y z
    rw [vi_r, vi_t] at f
    rw [f]
    unfold fdF pnF
    rw [vi_c O m w (JR.hc O).1, vi_l O]
  · obtain ⟨f1, f2, f3, f4, f5⟩ := fd0 hf
    obtain ⟨l1, l2, l3⟩ := Lr.dock f1 f2 f3 f4 P.2 f5 (by omega)
    have cb := dkA_b (T := trT w r) P x y z
    rw [e]
    exact ⟨l2, J.lay O hN (l1.mono (by omega) (Int.le_refl _)) ((dkF_bd B (by omega) (by omega) y z).mono (by omega)) (by omega)⟩
theorem s_float (O : Od c h t p b q r) (J : JR N m w c h t b r s0 past np) (hN : 1000000 ≤ N ∧ N ≤ 10000000) (x y z a v : Int) : flF9 (w (r + 1) 2) x y z a v = fflF m c x y z a v ∧ (fflF m c x y z a v = 0 → okF (trT w r) (w (r + 1) 2) x ∧
    JR (N + 20) (putL m (c + 2) (flF (lay m (c + 2)) x y z a v)) (ptT (up w r 19 (ctT (tkT (trT w r) (w (r + 1) 2) x) 4 + 1)) r (flT (trT w r) (w (r + 1) 2) x y z a v)) c h t b r s0 past np) := by
  obtain ⟨e, P, Lr, B⟩ := J.base (by omega)
  refine ⟨?_, fun hf => ?_⟩
  · have f := O_float_f (J.vi O) x y z a v
    rw [vi_r] at f
    rw [f]
    unfold fflF pnF
    rw [vi_c O m w (JR.hc O).1]
  · obtain ⟨f1, f2, f3, f4, f5⟩ := ffl0 hf
    obtain ⟨l1, l2, l3⟩ := Lr.float f1 P.2 (by omega) f2 f3 f4 f5
    have cb := ctT_b (tkT (trT w r) (m c 2) x) 4
    rw [e]
    exact ⟨l2, J.lay O hN (l1.mono (by omega) (Int.le_refl _)) ((flF_bd B (by omega) (by omega) (by omega) (by omega) (by omega) (by omega)).mono (by omega)) (by omega)⟩
theorem s_close (O : Od c h t p b q r) (J : JR N m w c h t b r s0 past np) (hN : 1000000 ≤ N ∧ N ≤ 10000000) (x : Int) : clF (w (r + 1) 2) x = fpF m c x ∧ (fpF m c x = 0 → okT (trT w r) (w (r + 1) 2) x ∧
    JR (N + 20) (putL m (c + 2) (tkF (lay m (c + 2)) x)) (ptT (up w r 19 (sxT (trT w r) x)) r (tkT (trT w r) (w (r + 1) 2) x)) c h t b r s0 past np) := by
  obtain ⟨e, P, Lr, B⟩ := J.base (by omega)
  refine ⟨?_, fun hf => ?_⟩
  · have f := O_close_f (J.vi O) x
    rw [vi_r] at f
    rw [f]
    unfold fpF pnF
    rw [vi_c O m w (JR.hc O).1]
  · have f1 := fp0 hf
    obtain ⟨l1, l2⟩ := Lr.take f1 P.2 (by omega)
    have cb := sxT_b (trT w r) x
    rw [e]
    exact ⟨l2, J.lay O hN (l1.mono (by omega) (Int.le_refl _)) ((tkF_bd B (by omega) x).mono (by omega)) (by omega)⟩
theorem s_share (O : Od c h t p b q r) (J : JR N m w c h t b r s0 past np) (hN : 1000000 ≤ N ∧ N ≤ 10000000) (x v : Int) : wgF (trT w r) (w (r + 1) 2) x v = fshF m c x v ∧ (fshF m c x v = 0 →
    JR (N + 20) (putL m (c + 2) (sL (lay m (c + 2)) 3 (gL (lay m (c + 2)) 0 x) v)) (ptT (up w r 19 (trT w r 3 (trT w r 9 x))) r (up (trT w r) 3 (trT w r 9 x) v)) c h t b r s0 past np) := by
  obtain ⟨e, P, Lr, B0⟩ := J.base (by omega)
  refine ⟨?_, fun hf => ?_⟩
  · have f := O_share_f (J.vi O) x v
    rw [vi_r, vi_t] at f
    rw [f]
    unfold fshF pnF
    rw [vi_c O m w (JR.hc O).1, vi_l O]
  · obtain ⟨f1, f2, f3⟩ := fsh0 hf
    obtain ⟨u, R⟩ := Lr.rl
    obtain ⟨i1, i2, i3, i4⟩ := inSplit R.wf (x := x) (by omega) f3
    have s1 : lay m (c + 2) 0 x ≠ -1 := by omega
    have us := R.pus (p := x) (by omega) s1
    rw [i1, sL3 (by omega) (by omega)]
    have pt : trT w r 9 x = u (lay m (c + 2) 0 x) := by rw [R.pan x (by omega) (by omega), if_neg s1]
    have l1 := Lr.weigh R us f2 hN.1
    have B : Bd (N + 20) (up (lay m (c + 2)) 3 (lay m (c + 2) 0 x) v) := fun k i => by
      have := B0 k i
      rw [up_e]; split <;> omega
    have wt := R.wt _ us i4.1 i4.2
    have vw := Lr.vl.wts _ (by omega) (by omega) i4
    rw [pt]
    exact J.lay O hN (l1.mono (by omega) (Int.le_refl _)) B (by rw [wt]; omega)
theorem s_add (O : Od c h t p b q r) (J : JR N m w c h t b r s0 past np) (hN : 1000000 ≤ N ∧ N ≤ 10000000) (x y : Int) : (adF (w (r + 1) 2) x y = 0 ↔ fnF m c x y = 0) ∧ (fnF m c x y = 0 →
    JR (N + 20) (apM m c x y) (adM w r (trT w r) x y) c h t b r s0 past np) := by
  obtain ⟨eb, P, Lr, B0⟩ := J.base (by omega)
  refine ⟨?_, fun hf => ?_⟩
  · have f := O_add_f (J.vi O) x y
    rw [vi_r] at f
    have g : fnF (enM (jn (stlM m p c) w r) r) c x y = fnF m c x y := by
      unfold fnF
      rw [vi_c O m w (JR.hc O).1]
    rw [g] at f
    rw [← f]
    (repeat' split) <;> omega
  · obtain ⟨f1, f2, f3⟩ := fn0 hf
    have p1 := J.st
    have cl := clM_e (m := m) (c := c) (pp := m c 2) (w := x) (v := y) (by omega) f2 f3
    have ap : apM m c x y = up (up (up m (c + 1) (2 * m c 2) x) (c + 1) (2 * m c 2 + 1) y) c 2 (m c 2 + 1) := by
      unfold apM
      rw [cl, up_a _ _ _ _ (by omega), up_a _ _ _ _ (by omega), wr_id (by omega)]
    generalize hT : up (up (trT w r) 9 (m c 2) (-1)) 10 (m c 2) 0 = T'
    have l1 := (Lr.room (by omega) ⟨P.1, f1⟩).mono (show N ≤ N + 20 by omega) (Int.le_refl _)
    rw [hT] at l1
    have sm : ∀ i : Int, i < 2 ∨ 35 ≤ i → (fun i => if i = 2 then m c 2 + 1 else if i = 3 + 2 * m c 2 + 1 then y else if i = 3 + 2 * m c 2 then x else w (r + 1) i) i = w (r + 1) i := fun i hi => by
      show (if _ then _ else _) = _
      rw [if_neg (by omega), if_neg (by omega), if_neg (by omega)]
    have st : RS (N + 20) (up (up (up m (c + 1) (2 * m c 2) x) (c + 1) (2 * m c 2 + 1) y) c 2 (m c 2 + 1)) c (ptS (fun i => if i = 2 then m c 2 + 1 else if i = 3 + 2 * m c 2 + 1 then y else if i = 3 + 2 * m c 2 then x else w (r + 1) i) T') := by
      refine p1.least (P := m c 2 + 1) (pp := m c 2) (w := x) (v := y) (by omega) (by omega) (by omega) f2 f3 ⟨by rw [up_e, if_neg (by omega), up_a _ _ _ _ (by omega), up_a _ _ _ _ (by omega)], by rw [up_e, if_neg (by omega), up_a _ _ _ _ (by omega), up_a _ _ _ _ (by omega)], by rw [up_e, if_pos ⟨rfl, rfl⟩]⟩ (fun i h1 h2 => ?_) (fun k i h1 h2 => ?_) ?_ (fun i h1 h2 => ?_) (fun i h1 h2 => ?_) ?_ (fun i h1 h2 => ?_)
      · rw [up_a _ _ _ _ (by omega), up_e, up_e]
        by_cases a : i = 2 * m c 2 + 1
        · rw [if_pos ⟨rfl, a⟩, if_pos a]
        · rw [if_neg (by omega), if_neg a]
          by_cases b : i = 2 * m c 2
          · rw [if_pos ⟨rfl, b⟩, if_pos b]
          · rw [if_neg (by omega), if_neg b]
      · rw [up_a _ _ _ _ (by omega), up_a _ _ _ _ (by omega), up_a _ _ _ _ (by omega)]
      · rw [ptS_x _ _ (by omega)]
        exact if_pos rfl
      · rw [ptS_x _ _ (by omega)]
        show (if _ then _ else _) = _
        rw [if_neg (by omega)]
        by_cases a : i = 2 * m c 2 + 1
        · rw [if_pos (by omega), if_pos a]
        · rw [if_neg (by omega), if_neg a]
          by_cases b : i = 2 * m c 2
          · rw [if_pos (by omega), if_pos b]
          · rw [if_neg (by omega), if_neg b]
      · rw [ptS_x _ _ (by omega)]; exact sm i (by omega)
      · exact l1.cT (trS_ptS _ _) (l1.tb.pt _)
      · rw [ptS_x _ _ (by omega)]; exact sm i (by omega)
    have am : adM w r (trT w r) x y = ptT (up (up (up (up w r 19 (m c 2)) (r + 1) (3 + 2 * m c 2) x) (r + 1) (3 + 2 * m c 2 + 1) y) (r + 1) 2 (m c 2 + 1)) r T' := by
      unfold adM adB
      rw [eb, hT]
    have row : adM w r (trT w r) x y (r + 1) = ptS (fun i => if i = 2 then m c 2 + 1 else if i = 3 + 2 * m c 2 + 1 then y else if i = 3 + 2 * m c 2 then x else w (r + 1) i) T' := funext fun i => by
      rw [am, ptT_1]
      unfold ptS
      split
      · rfl
      · rw [up_e, up_e, up_e, up_a _ _ _ _ (by omega)]
        show _ = (if _ then _ else _)
        by_cases d : i = 2
        · rw [if_pos ⟨rfl, d⟩, if_pos d]
        · rw [if_neg (by omega), if_neg d]
          by_cases a : i = 3 + 2 * m c 2 + 1
          · rw [if_pos ⟨rfl, a⟩, if_pos a]
          · rw [if_neg (by omega), if_neg a]
            by_cases b : i = 3 + 2 * m c 2
            · rw [if_pos ⟨rfl, b⟩, if_pos b]
            · rw [if_neg (by omega), if_neg b]
    rw [ap]
    refine J.put O (by omega) (by rw [row]; exact st) (fun k i hk => by rw [up_a _ _ _ _ (by omega), up_a _ _ _ _ (by omega), up_a _ _ _ _ (by omega)]) ((((J.ba.up _ _ (v := x) (fun _ => by omega)).up _ _ (v := y) (fun _ => by omega)).up _ _ (v := m c 2 + 1) (fun _ => by omega)).mono (by omega)) (R32_up (R32_up (R32_up J.rc _ _ (by omega)) _ _ (by omega)) _ _ (by omega)) ?_ (fun k i h1 h2 => ?_)
    · rw [am]
      exact R32_ptT (R32_up (R32_up (R32_up (R32_up J.rr _ _ (by omega)) _ _ (by omega)) _ _ (by omega)) _ _ (by omega)) l1.tb (by omega)
    · rw [am, ptT_x _ _ _ h1, up_a _ _ _ _ h1, up_a _ _ _ _ h1, up_a _ _ _ _ h1, up_e, if_neg h2]
theorem s_save (O : Od c h t p b q r) (J : JR N m w c h t b r s0 past np) (hN : 1000000 ≤ N ∧ N ≤ 10000000) {j : Nat} (hj : j < 4) : JR (N + 20) (kpM m c j) (svB w r (trT w r) j) c h t b r s0 past np := by
  obtain ⟨eb, P, Lr, B0⟩ := J.base (by omega)
  have p1 := J.st
  obtain ⟨k1, k2, k3⟩ := hk_e p1 hj
  have ek : kpM m c j = up (cp8 m (c + 2) (c + 13 + 9 * j) 8) (c + 12) j 1 := by
    unfold kpM; exact sKe (by omega) (by omega) (by omega)
  generalize hs' : (fun i : Int => if i = 355 + 321 * (j : Int) then 1 else if 355 + 321 * (j : Int) < i ∧ i ≤ 355 + 321 * (j : Int) + 320 then w (r + 1) (i - (355 + 321 * (j : Int)) - 1 + 35) else w (r + 1) i) = s'
  have s'e : ∀ i : Int, s' i = if i = 355 + 321 * (j : Int) then 1 else if 355 + 321 * (j : Int) < i ∧ i ≤ 355 + 321 * (j : Int) + 320 then w (r + 1) (i - (355 + 321 * (j : Int)) - 1 + 35) else w (r + 1) i := fun i => by rw [← hs']
  have sm : ∀ i : Int, i < 355 + 321 * (j : Int) ∨ 355 + 321 * (j : Int) + 320 < i → s' i = w (r + 1) i := fun i hi => by rw [s'e, if_neg (by omega), if_neg (by omega)]
  generalize e1 : kpM m c j = m1
  rw [ek] at e1
  have off : ∀ (x : Nat) (i : Int), (x < c + 12 ∨ c + 12 < x) → (x ≤ c + 13 + 9 * j ∨ c + 13 + 9 * j + 8 < x) → m1 x i = m x i := fun x i h1 h2 => by
    rw [← e1, up_a _ _ _ _ (by omega), cp8_off i 8 (by omega)]
  have o12 : ∀ i : Int, m1 (c + 12) i = if i = j then 1 else m (c + 12) i := fun i => by
    rw [← e1, up_e]
    by_cases z : i = j
    · rw [if_pos ⟨rfl, z⟩, if_pos z]
    · rw [if_neg (by omega), if_neg z, cp8_off i 8 (by omega)]
  have eL : ∀ b', (b' + 8 < c + 12 ∨ c + 12 ≤ b') → (b' + 8 ≤ c + 13 + 9 * j ∨ c + 13 + 9 * j + 8 ≤ b') → ∀ k : Nat, lay m1 b' k = lay m b' k := fun b' h1 h2 k => by
    funext i
    show (if _ then _ else _) = (if _ then _ else _)
    by_cases z : k ≤ 7
    · rw [if_pos z, if_pos z]; exact off _ _ (by omega) (by omega)
    · rw [if_neg z, if_neg z]
  have st : RS (N + 20) m1 c s' := by
    obtain ⟨a1, a2, a3, a4, a5, a6, a7, a8⟩ := p1.mono (show N ≤ N + 20 by omega)
    refine RS.mk ?_ ?_ ?_ ?_ ?_ ?_ ?_ ?_
    · rw [off _ _ (by omega) (by omega), sm _ (by omega)]; exact a1
    · rw [off _ _ (by omega) (by omega), sm _ (by omega)]; exact a2
    · rw [off _ _ (by omega) (by omega), sm _ (by omega)]; exact a3
    · intro i h1 h2; rw [off _ _ (by omega) (by omega), sm _ (by omega)]; exact a4 i h1 h2
    · intro k ax h1 h2 ha
      rw [off _ _ (by omega) (by omega)] at h2
      rw [off _ _ (by omega) (by omega)]; exact a5 k ax h1 h2 ha
    · rw [off _ _ (by omega) (by omega)]
      exact a6.c (fun k i _ _ _ => by rw [eL _ (by omega) (by omega)]) (fun i h1 h2 => sm _ (by omega)) a3.2.1
    · intro k hk
      rw [o12]
      by_cases z : k = j
      · subst z
        rw [if_pos rfl, s'e, if_pos rfl]; exact ⟨rfl, Or.inr rfl⟩
      · rw [if_neg (by omega), sm _ (by omega)]; exact a7 k hk
    · intro k hk hh
      rw [o12] at hh
      rw [off _ _ (by omega) (by omega)]
      by_cases z : k = j
      · subst z
        refine a6.c (fun k2 i hm h1 h2 => ?_) (fun i h1 h2 => ?_) a3.2.1
        · rw [← EqL_cp8 (mu := m) (d := c + 2) (b := c + 13 + 9 * k) (by omega) k2 i hm h1 h2, lay_e hm, lay_e hm, ← e1, up_a _ _ _ _ (by omega)]
        · rw [s'e, if_neg (by omega), if_pos (by omega)]
          congr 1
          omega
      · rw [if_neg (by omega)] at hh
        refine (a8 k hk hh).c (fun k2 i _ _ _ => by rw [eL _ (by omega) (by omega)]) (fun i h1 h2 => sm _ (by omega)) a3.2.1
  have R1 : R32 m1 := by rw [← e1]; exact R32_up (R32_cp8 J.rc _ _ 8) _ _ (by omega)
  have B1 : BA (N + 20) (rowsC c h b) m1 := by
    rw [← e1]
    exact ((J.ba.cp8 (fun k hk _ => Or.inl ⟨by omega, by omega⟩) 8 (by omega)).up _ _ (v := 1) (fun _ => by omega)).mono (by omega)
  have row : ∀ (v : Int) (i : Int), ptT (up w r 19 v) r (trT w r) (r + 1) i = w (r + 1) i := fun v i => by
    rw [ptT_1, show up w r 19 v (r + 1) = w (r + 1) from funext fun k => by rw [up_a _ _ _ _ (by omega)], trS_T, ptS_self]
  refine J.put O (by omega) ?_ (fun k i hk => off _ _ (by omega) (by omega)) B1 R1 (fun x i => ?_) (fun x i h1 h2 => ?_)
  · have e : svB w r (trT w r) j (r + 1) = s' := funext fun i => by
      unfold svB svP
      rw [s'e]
      by_cases z : 355 + 321 * (j : Int) < i ∧ i ≤ 355 + 321 * (j : Int) + 320
      · rw [if_pos ⟨rfl, z⟩, if_neg (by omega), if_pos z, up_e, if_neg (by omega), row]
      · rw [if_neg (by omega), up_e]
        by_cases y : i = 355 + 321 * (j : Int)
        · rw [if_pos ⟨rfl, y⟩, if_pos y]
        · rw [if_neg (by omega), if_neg y, if_neg z, row]
    rw [e]; exact st
  · unfold svB svP
    have Q : R32 (up (ptT (up w r 19 (w (r + 1) (355 + 321 * (j : Int)))) r (trT w r)) (r + 1) (355 + 321 * (j : Int)) 1) :=
      R32_up (R32_ptT (R32_up J.rr _ _ (by omega)) Lr.tb (by omega)) _ _ (by omega)
    split <;> exact Q _ _
  · unfold svB svP
    rw [if_neg (by omega), up_a _ _ _ _ h1, ptT_x _ _ _ h1, up_e, if_neg h2]
theorem s_back (O : Od c h t p b q r) (J : JR N m w c h t b r s0 past np) (hN : 1000000 ≤ N ∧ N ≤ 10000000) (x : Int) : (brF w r x = 0 ↔ flF8 m c x = 0) ∧ (flF8 m c x = 0 → JR (N + 20) (tpM m c x.toNat) (brB w r x) c h t b r s0 past np) := by
  obtain ⟨eb, P, Lr, B0⟩ := J.base (by omega)
  have p1 := J.st
  refine ⟨?_, fun hf => ?_⟩
  · have f := O_back_f (J.vi O) x
    have g : flF8 (enM (jn (stlM m p c) w r) r) c x = flF8 m c x := by
      unfold flF8 hkF gK atF
      rw [vi_c O m w (JR.hc O).2]
    have g2 : brF (hdM (enM (jn (stlM m p c) w r) r) r) r x = brF w r x := by
      unfold brF
      rw [hdM_x _ _ (by omega), vi_r]
    rw [g, g2] at f
    rw [← f]
    (repeat' split) <;> omega
  · have hx : 0 ≤ x ∧ x ≤ 3 := by
      unfold flF8 at hf
      split at hf
      · assumption
      · omega
    have hj : x.toNat < 4 := by omega
    have ej : ((x.toNat : Nat) : Int) = x := by omega
    generalize x.toNat = j at *
    have hk : m (c + 12) j = 1 := by
      have k := hk_e p1 hj
      unfold flF8 at hf
      rw [if_pos hx, ← ej, k.1] at hf
      rw [k.2.1]
      split at hf
      · assumption
      · omega
    have l1 := (p1.kep j hj hk).mono (show N ≤ N + 20 by omega) (Int.le_refl _)
    have off : ∀ (y : Nat) (i : Int), (y ≤ c + 2 ∨ c + 2 + 8 < y) → tpM m c j y i = m y i := fun y i hy => cp8_off i 8 (by omega)
    have eqL : EqL (lay m (c + 13 + 9 * j)) (lay (tpM m c j) (c + 2)) := EqL_cp8 (by omega)
    generalize hT : trS (w (r + 1)) (355 + 321 * (j : Int) + 1) = T' at l1
    have st : RS (N + 20) (tpM m c j) c (ptS (w (r + 1)) T') := by
      obtain ⟨a1, a2, a3, a4, a5, a6, a7, a8⟩ := p1.mono (show N ≤ N + 20 by omega)
      refine RS.mk ?_ ?_ ?_ ?_ ?_ ?_ ?_ ?_
      · rw [off _ _ (by omega), ptS_x _ _ (by omega)]; exact a1
      · rw [off _ _ (by omega), ptS_x _ _ (by omega)]; exact a2
      · rw [off _ _ (by omega), ptS_x _ _ (by omega)]; exact a3
      · intro i h1 h2; rw [off _ _ (by omega), ptS_x _ _ (by omega)]; exact a4 i h1 h2
      · intro k ax h1 h2 ha
        rw [off _ _ (by omega)] at h2
        rw [off _ _ (by omega)]; exact a5 k ax h1 h2 ha
      · rw [off _ _ (by omega)]
        have l2 := l1.cT (trS_ptS (w (r + 1)) T') (l1.tb.pt _)
        exact l2.c eqL (fun _ _ _ => rfl) a3.2.1
      · intro k hk
        rw [off _ _ (by omega), ptS_x _ _ (by omega)]; exact a7 k hk
      · intro k hk hh
        rw [off _ _ (by omega)] at hh
        rw [off _ _ (by omega)]
        refine (a8 k hk hh).c (fun k2 i hm _ _ => by rw [lay_e hm, lay_e hm]; exact off _ _ (by omega)) (fun i h1 h2 => ptS_x _ _ (by omega)) a3.2.1
    have B1 : BA (N + 20) (rowsC c h b) (tpM m c j) := (J.ba.cp8 (fun k hk _ => Or.inl ⟨by omega, by omega⟩) 8 (by omega)).mono (by omega)
    have eO : trO w r (355 + 321 * x + 1) = T' := by rw [trS_O, ← ej, hT]
    have sb : 0 ≤ smG (opn T') (m c 2).toNat ∧ smG (opn T') (m c 2).toNat ≤ (m c 2).toNat := smG_b _ (fun i => by unfold opn; split <;> omega) _
    have eB : brB w r x = ptT (up w r 19 (smG (opn T') (m c 2).toNat)) r T' := by
      unfold brB
      rw [eO, eb]
    rw [eB]
    refine J.put O (by omega) ?_ (fun k i hk => off _ _ (by omega)) B1 (R32_cp8 J.rc _ _ 8) (R32_ptT (R32_up J.rr _ _ (by omega)) l1.tb (by omega)) (fun k i h1 h2 => by rw [ptT_x _ _ _ h1, up_e, if_neg h2])
    have e : ptT (up w r 19 (smG (opn T') (m c 2).toNat)) r T' (r + 1) = ptS (w (r + 1)) T' := funext fun i => by
      rw [ptT_1, show up w r 19 (smG (opn T') (m c 2).toNat) (r + 1) = w (r + 1) from funext fun j => up_a _ _ _ _ (by omega)]
    rw [e]; exact st
end SS
