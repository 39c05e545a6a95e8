/-! A TURN: afloat, closing, raising, moving a tab, a weight, another active pane -/
section T3
variable {N : Int} {mu : Mem} {c h t p b q w : Nat}
theorem Bd.up9 {N M : Int} {L : Mem} (B : Bd N L) (hN : N ≤ M) (k : Nat) (i : Int) {v : Int} (hv : -M ≤ v ∧ v ≤ M) : Bd M (up L k i v) := fun k' i' => by
  have := B k' i'
  rw [up_e]
  split <;> omega
theorem float_w (O : Od c h t p b q w) (A : Wi N mu c h t p b w) (hN : 1000000 ≤ N ∧ N ≤ 10000000) {x y z u v : Int} (hx : 0 ≤ x ∧ x < mu w 2) (hy : 0 ≤ y ∧ y ≤ 399) (hz : 0 ≤ z ∧ z ≤ 399) (hu : 1 ≤ u ∧ u ≤ 400) (hv : 1 ≤ v ∧ v ≤ 400) :
    ∃ (m1 : Mem) (g : Int), jK mu w x m1 ∧ jFg m1 w g ∧ (0 ≤ m1 w 4 ∧ m1 w 4 ≤ 4) ∧ ∀ m' : Mem, m' = jB (jF m1 w x g) w g y z u v → Wo m' c h t p ∧ fflF m' c x y z u v = 0 ∧
      ∀ m3 : Mem, m3 = stlM (putL (pshM m' c h) (c + 2) (flF (lay (pshM m' c h) (c + 2)) x y z u v)) p c → gL (lay m3 (c + 2)) 2 48 = m1 w 4 + 1 ∧ m3 w 4 = m1 w 4 + 1 ∧ Wi (N + 20) m3 c h t p b w := by
  have H := A.ly
  have p5 := A.p5
  have np := A.lr.np
  have m13 := A.lr.m13 H
  obtain ⟨T, hT⟩ := A.cw.lyt
  have bd := A.cw.bd9 (by omega)
  obtain ⟨m1, g, hK, hfg, h4, fe⟩ := float_e A.lr hT (by omega) p5 (p := x) ⟨hx.1, by omega⟩
  obtain ⟨R1, e2⟩ := jK_R A.cw.2 (by omega) m13.1 hK
  have RF := jF_R R1 w (p := x) (g := g) ⟨hx.1, by omega⟩ hfg.1
  refine ⟨m1, g, hK, hfg, h4, fun m' em => ?_⟩
  obtain ⟨B2, F, ea, w4⟩ := fe y z u v
  rw [← em] at B2 F w4
  have F4 := jF_x m1 w x g (show w ≠ w + 2 by omega) 4
  have hg := hfg.1
  have R' : R32 m' := by
    rw [em]
    unfold jB
    exact R32_up (R32_up (R32_up (R32_up (R32_up (R32_up RF _ _ ⟨by omega, by omega⟩) _ _ ⟨by omega, by omega⟩) _ _ ⟨by omega, by omega⟩) _ _ ⟨by omega, by omega⟩) _ _ ⟨by omega, by omega⟩) _ _ ⟨by omega, by omega⟩
  obtain ⟨W, el, -, ec⟩ := law_see O A hN F R'
  refine ⟨W, ?_, fun m3 e3 => ?_⟩
  · unfold fflF
    rw [if_pos (show pnF m' c x = 1 from if_pos ⟨hx.1, by omega⟩), if_pos ⟨⟨hy.1, by omega, hz.1, by omega⟩, hu.1, hu.2, hv.1, hv.2⟩]
  · rw [el] at e3
    obtain ⟨l1, -, -⟩ := hT.float (p := x) (x := y) (y := z) (w := u) (v := v) ⟨hx.1, by omega⟩ (by omega) (by omega) hy hz hu hv
    have lm := l1.mono (show N + 3 ≤ N + 20 by omega) (Int.le_refl _)
    obtain ⟨eL, ew, W3⟩ := law_cls O A hN F R' lm ((flF_bd bd (by omega) (by omega) (by omega) (by omega) (by omega) (by omega)).mono (by omega)) B2 e3
    refine ⟨by rw [gL2 ⟨by omega, by omega⟩, eL 2 48 (by omega), ea], by rw [ew w 4 (by omega), w4], W3⟩
theorem close_w (O : Od c h t p b q w) (A : Wi N mu c h t p b w) (hN : 1000000 ≤ N ∧ N ≤ 10000000) {x : Int} (hx : 0 ≤ x ∧ x < mu w 2) :
    ∃ m1 : Mem, jK mu w x m1 ∧ Wo m1 c h t p ∧ fpF m1 c x = 0 ∧ sttF (lay (pshM m1 c h) (c + 2)) x = jX mu w x ∧
      Wi (N + 20) (stlM (putL (pshM m1 c h) (c + 2) (tkF (lay (pshM m1 c h) (c + 2)) x)) p c) c h t p b w := by
  have H := A.ly
  have p5 := A.p5
  have np := A.lr.np
  have m13 := A.lr.m13 H
  obtain ⟨T, hT⟩ := A.cw.lyt
  have bd := A.cw.bd9 (by omega)
  obtain ⟨m1, hK, B2, F⟩ := take_e A.lr H (p := x) ⟨hx.1, by omega⟩ (by omega)
  obtain ⟨R1, e2⟩ := jK_R A.cw.2 (by omega) m13.1 hK
  obtain ⟨W, el, -, ec⟩ := law_see O A hN F R1
  have st := (A.lr.stt9 H (a := x) ⟨hx.1, by omega⟩).1
  refine ⟨m1, hK, W, if_pos (show pnF m1 c x = 1 from if_pos ⟨hx.1, by omega⟩), by rw [el, st], ?_⟩
  rw [el]
  have lm := (hT.take (p := x) ⟨hx.1, by omega⟩ (by omega) (by omega)).1.mono (show N + 3 ≤ N + 20 by omega) (Int.le_refl _)
  exact (law_cls O A hN F R1 lm ((tkF_bd bd (by omega) x).mono (by omega)) B2 rfl).2.2
theorem raise_w (O : Od c h t p b q w) (A : Wi N mu c h t p b w) (hN : 1000000 ≤ N ∧ N ≤ 10000000) {x : Int} (hx : 0 ≤ x ∧ x < mu w 2) :
    (jX mu w x < 2 → faF mu c x = 3) ∧
    (¬ jX mu w x < 2 → ∃ t9 : Int, (0 ≤ t9 ∧ t9 < mu w 4 ∧ mu w 4 ≤ 5) ∧ mu (w + 3) t9 = mu (w + 2) (4 * x + 2) ∧ (∀ y : Int, 0 ≤ y → y < t9 → mu (w + 3) y ≠ mu (w + 2) (4 * x + 2)) ∧
      ∀ m' : Mem, m' = jRs mu w t9 (mu (w + 2) (4 * x + 2)) → Wo m' c h t p ∧ faF m' c x = 0 ∧ aL (lay (pshM m' c h) (c + 2)) 1 (gL (lay (pshM m' c h) (c + 2)) 0 x) = t9 ∧
        Wi (N + 20) (stlM (putL (pshM m' c h) (c + 2) (raF (lay (pshM m' c h) (c + 2)) (gL (lay (pshM m' c h) (c + 2)) 0 x))) p c) c h t p b w) := by
  have H := A.ly
  have p5 := A.p5
  have np := A.lr.np
  obtain ⟨T, hT⟩ := A.cw.lyt
  have bd := A.cw.bd9 (by omega)
  obtain ⟨st, op⟩ := A.lr.stt9 H (a := x) ⟨hx.1, by omega⟩
  have sb := sttF_b (lay mu (c + 2)) x
  have px : pnF mu c x = 1 := if_pos ⟨hx.1, by omega⟩
  refine ⟨fun hb => ?_, fun hb => ?_⟩
  · unfold faF
    rw [if_pos px, if_neg (by omega)]
  · have s2 : sttF (lay mu (c + 2)) x = 2 := by omega
    obtain ⟨s0, f48⟩ := stt2 ⟨hx.1, by omega⟩ s2
    have op1 := (op s0).1
    rw [aL_0 (i := lay mu (c + 2) 0 x) ⟨by omega, by omega⟩] at f48
    obtain ⟨ap, t1, t2, t3, B2, F⟩ := raise_e A.lr H (p := x) ⟨hx.1, by omega⟩ rfl ⟨by omega, by omega⟩ f48
    rw [← ap] at t2 t3 B2 F
    refine ⟨lay mu (c + 2) 1 (lay mu (c + 2) 0 x), t1, t2, t3, fun m' em => ?_⟩
    rw [← em] at B2 F
    have gb := A.cw.2 (w + 2) (4 * x + 2)
    have R' : R32 m' := fun k i => by
      rw [em]
      unfold jRs jR1
      rw [up_e]
      split
      · exact gb
      · split <;> exact A.cw.2 _ _
    obtain ⟨W, el, el2, ec⟩ := law_see O A hN F R'
    have g0 : gL (lay mu (c + 2)) 0 x = lay mu (c + 2) 0 x := gL0 ⟨by omega, by omega⟩
    obtain ⟨u, Ru⟩ := hT.rl
    have us := Ru.pus (p := x) ⟨by omega, by omega⟩ s0
    have lm := (hT.raise Ru us f48 (by omega)).mono (show N + 3 ≤ N + 20 by omega) (Int.le_refl _)
    refine ⟨W, ?_, ?_, ?_⟩
    · unfold faF
      rw [if_pos (show pnF m' c x = 1 from if_pos ⟨hx.1, by omega⟩), el2, if_pos s2]
    · rw [el, g0, aL_1 ⟨by omega, by omega⟩]
    · rw [el, g0]
      exact (law_cls O A hN F R' lm ((raF_bd bd (by omega) _).mono (by omega)) B2 rfl).2.2
theorem move_w (O : Od c h t p b q w) (A : Wi N mu c h t p b w) (hN : 1000000 ≤ N ∧ N ≤ 10000000) {x y : Int} (hx : 0 ≤ x ∧ x < mu w 2) (hy : 0 ≤ y ∧ y < 4) :
    (jX mu w x ≠ 0 → 0 ≤ mu (w + 2) (4 * x + 3) ∧ mu (w + 2) (4 * x + 3) ≤ 100) ∧
    ((jX mu w x = 0 ∨ jT mu w (mu (w + 2) (4 * x + 2)) ≤ y) → fmF mu c x y = if jX mu w x = 0 then 3 else 2) ∧
    (¬ (jX mu w x = 0 ∨ jT mu w (mu (w + 2) (4 * x + 2)) ≤ y) → (∀ k : Int, 0 ≤ k → k < mu w 2 → mu (w + 2) (4 * k + 2) = mu (w + 2) (4 * x + 2) → -1000 ≤ mu (w + 2) (4 * k + 3) ∧ mu (w + 2) (4 * k + 3) ≤ 1000) ∧
      ∀ m' : Mem, m' = jVs mu w x y → Wo m' c h t p ∧ fmF m' c x y = 0 ∧ gL (lay (pshM m' c h) (c + 2)) 1 x = mu (w + 2) (4 * x + 3) ∧
        Wi (N + 20) (stlM (putL (pshM m' c h) (c + 2) (mvF (lay (pshM m' c h) (c + 2)) x y)) p c) c h t p b w) := by
  have H := A.ly
  have p5 := A.p5
  have np := A.lr.np
  obtain ⟨T, hT⟩ := A.cw.lyt
  have bd := A.cw.bd9 (by omega)
  obtain ⟨st, op⟩ := A.lr.stt9 H (a := x) ⟨hx.1, by omega⟩
  have px : pnF mu c x = 1 := if_pos ⟨hx.1, by omega⟩
  have g0 : gL (lay mu (c + 2)) 0 x = lay mu (c + 2) 0 x := gL0 ⟨by omega, by omega⟩
  have ap := A.lr.grp x hx.1 (by omega)
  have rg := H.wf.mb.rng x hx.1 (by omega)
  by_cases z : jX mu w x = 0
  · refine ⟨fun h => absurd z h, fun _ => ?_, fun h => absurd (Or.inl z) h⟩
    have fo : foF mu c x = 3 := by
      unfold foF
      rw [if_pos px, if_pos (show sttF (lay mu (c + 2)) x = 0 by omega)]
    unfold fmF
    rw [if_neg (by omega), fo, if_pos z]
  · have s0 : lay mu (c + 2) 0 x ≠ -1 := stt0 ⟨hx.1, by omega⟩ (by omega)
    have rg := rg s0
    have op1 := (op s0).1
    rw [if_neg s0] at ap
    have pp := A.lr.pla x hx.1 (by omega) s0
    have tb := A.lr.tabs H.wf.mb (g := lay mu (c + 2) 0 x) ⟨by omega, by omega⟩ ⟨by omega, by omega⟩ (fun t h1 h2 h3 => H.pan9 ⟨by omega, by omega⟩ ⟨h1, h2⟩ h3)
    have c16 := H.wf.cnt16 H.fu (h := lay mu (c + 2) 0 x) ⟨by omega, by omega⟩
    have fo : foF mu c x = 0 := by
      unfold foF
      rw [if_pos px, if_neg (by omega)]
    refine ⟨fun _ => by omega, fun hb => ?_, fun hb => ⟨fun k k1 k2 e => ?_, fun m' em => ?_⟩⟩
    · unfold fmF frF
      rw [if_pos fo, g0, gL2 ⟨by omega, by omega⟩, if_neg z]
      rw [ap, tb] at hb
      rw [if_neg (by omega)]
    · have gk := A.lr.grp k k1 (by omega)
      by_cases v : lay mu (c + 2) 0 k = -1
      · rw [if_pos v] at gk; omega
      · rw [if_neg v] at gk
        have pk := A.lr.pla k k1 (by omega) v
        have rk := H.wf.mb.rng k k1 (by omega) v
        have e0 : lay mu (c + 2) 0 k = lay mu (c + 2) 0 x := by omega
        rw [e0] at rk
        omega
    · rw [ap, tb] at hb
      obtain ⟨B2, F⟩ := move_e A.lr H (p := x) (i := y) ⟨hx.1, by omega⟩ s0 ⟨hy.1, by omega⟩
      rw [← em] at B2 F
      have R' : R32 m' := fun k i => by
        rw [em]
        unfold jVs
        rw [up_e]
        split
        · omega
        · unfold jV1
          split
          · rename_i hh
            have gk := A.lr.grp ((i - 3) / 4)
            have := A.cw.2 (w + 2) i
            have ki := A.cw.2 k i
            unfold mvX
            have b9 := A.cw.2 (w + 2) (4 * x + 3)
            have pk := A.lr.pla ((i - 3) / 4)
            have rk := H.wf.mb.rng ((i - 3) / 4)
            rw [show 4 * ((i - 3) / 4) + 2 = i - 1 by omega] at gk
            rw [show 4 * ((i - 3) / 4) + 3 = i by omega] at pk
            have gk := gk (by omega) (by omega)
            by_cases v : lay mu (c + 2) 0 ((i - 3) / 4) = -1
            · rw [if_pos v] at gk; omega
            · rw [if_neg v] at gk
              have pk := pk (by omega) (by omega) v
              have rk := rk (by omega) (by omega) v
              have e0 : lay mu (c + 2) 0 ((i - 3) / 4) = lay mu (c + 2) 0 x := by omega
              rw [e0] at rk
              (repeat' split) <;> omega
          · exact A.cw.2 _ _
      obtain ⟨W, el, el2, ec⟩ := law_see O A hN F R'
      have lm := (hT.move (p := x) (i := y) ⟨hx.1, by omega⟩ (by omega) s0 ⟨hy.1, by omega⟩ (by omega)).mono (show N + 3 ≤ N + 20 by omega) (Int.le_refl _)
      refine ⟨W, ?_, by rw [el, gL1 ⟨by omega, by omega⟩, pp], ?_⟩
      · unfold fmF foF frF
        rw [if_pos (show pnF m' c x = 1 from if_pos ⟨hx.1, by omega⟩), el2, if_neg (show ¬ sttF (lay mu (c + 2)) x = 0 by omega), if_pos rfl, g0, gL2 ⟨by omega, by omega⟩, if_pos ⟨hy.1, by omega⟩]
      · rw [el]
        exact (law_cls O A hN F R' lm ((mvF_bd bd (by omega) x (by omega)).mono (by omega)) B2 rfl).2.2
end T3
