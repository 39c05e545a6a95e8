/-! A TURN: a weight, another active pane -/
section T4
variable {N : Int} {mu : Mem} {c h t p b q w : Nat}
theorem weigh_w (O : Od c h t p b q w) (A : Wi N mu c h t p b w) (hN : 1000000 ≤ N ∧ N ≤ 10000000) {x i : Int} (hx : 0 ≤ x ∧ x < mu w 2) (hi : jS mu w (if mu (w + 2) (4 * x + 2) < 0 then 9 else mu (w + 2) (4 * x + 2)) = i) :
    (i < 1 → fshF mu c x 5 = 3) ∧
    (¬ i < 1 → ∀ v : Int, 1 ≤ v ∧ v ≤ 1000 → ∀ m' : Mem, m' = up mu (w + 1) (3 * i + 1) v → Wo m' c h t p ∧ fshF m' c x v = 0 ∧ gL (lay (pshM m' c h) (c + 2)) 3 (gL (lay (pshM m' c h) (c + 2)) 0 x) = mu (w + 1) (3 * i + 1) ∧
      Wi (N + 20) (stlM (putL (pshM m' c h) (c + 2) (sL (lay (pshM m' c h) (c + 2)) 3 (gL (lay (pshM m' c h) (c + 2)) 0 x) v)) p c) c h t p b w) := by
  have H := A.ly
  have p5 := A.p5
  have np := A.lr.np
  have m13 := A.lr.m13 H
  obtain ⟨T, hT⟩ := A.cw.lyt
  have bd := A.cw.bd9 (by omega)
  obtain ⟨st, op⟩ := A.lr.stt9 H (a := x) ⟨hx.1, by omega⟩
  obtain ⟨o, c', S⟩ := A.lr.sg
  have px : pnF mu c x = 1 := if_pos ⟨hx.1, by omega⟩
  have g0 : gL (lay mu (c + 2)) 0 x = lay mu (c + 2) 0 x := gL0 ⟨by omega, by omega⟩
  have ap := A.lr.grp x hx.1 (by omega)
  have fs : ∀ v : Int, 1 ≤ v → v ≤ 1000 → spF (gL (lay mu (c + 2)) 0 (gL (lay mu (c + 2)) 0 x)) = 0 → fshF mu c x v = 3 := fun v v1 v2 e => by
    unfold fshF
    rw [if_pos px, if_neg (by omega), if_pos e]
  by_cases z : lay mu (c + 2) 0 x = -1
  · rw [if_pos z] at ap
    rw [ap, if_pos (by omega)] at hi
    have j := S.sgnN (gr := 9) (fun y hy y32 e => by
      have := Ly.low21 A.lr H (x := y) ⟨hy.1.1, y32⟩ hy.2.1
      omega)
    refine ⟨fun _ => fs 5 (by omega) (by omega) ?_, fun q => by omega⟩
    rw [g0, z, gLn _ _ ⟨by omega, by omega⟩]
    decide
  · rw [if_neg z] at ap
    obtain ⟨op1, op2⟩ := op z
    rw [ap, if_neg (by omega)] at hi
    have g1 : gL (lay mu (c + 2)) 0 (lay mu (c + 2) 0 x) = lay mu (c + 2) 0 (lay mu (c + 2) 0 x) := gL0 ⟨by omega, by omega⟩
    rcases op2 with ⟨f48, js⟩ | tg
    · refine ⟨fun _ => fs 5 (by omega) (by omega) ?_, fun q => by omega⟩
      rw [g0, g1, f48]
      decide
    · have j := S.sgn tg (by omega)
      have r := S.rng _ tg
      have T9 := H.wf.tw9
      by_cases z47 : lay mu (c + 2) 0 (lay mu (c + 2) 0 x) = 47
      · have ro := S.rot _ tg z47
        refine ⟨fun _ => fs 5 (by omega) (by omega) ?_, fun q => by omega⟩
        rw [g0, g1, z47]
        decide
      · have hh := T9.hol _ tg
        have FF : ∀ x : Int, Tn (lay mu (c + 2)) x → 32 ≤ x → 1 ≤ lay mu (c + 2) 2 x := fun x hx _ => ((H.fu x hx.1.1 hx.1.2).2 hx.2.1).1
        have up9 := S.upP T9 FF (by omega) tg z47
        have tp := T9.par _ tg z47
        have rp := S.rng _ tp
        have ub := up9.1
        refine ⟨fun q => by omega, fun _ v hv m' em => ?_⟩
        obtain ⟨B2, F⟩ := weigh_e (v := v) A.lr S tg
        rw [show o (lay mu (c + 2) 0 x) = i by omega, ← em] at B2 F
        have R' : R32 m' := by rw [em]; exact R32_up A.cw.2 _ _ ⟨by omega, by omega⟩
        obtain ⟨W, el, el2, ec⟩ := law_see O A hN F R'
        obtain ⟨u, Ru⟩ := hT.rl
        have us := Ru.pus (p := x) ⟨by omega, by omega⟩ z
        have lm := (hT.weigh Ru us (v := v) ⟨by omega, by omega⟩ hN.1).mono (show N ≤ N + 20 by omega) (Int.le_refl _)
        have wg := S.wgt _ tg z47
        have s1 : spF (lay mu (c + 2) 0 (lay mu (c + 2) 0 x)) = 1 := if_pos ⟨by omega, by omega⟩
        refine ⟨W, ?_, ?_, ?_⟩
        · unfold fshF
          rw [if_pos (show pnF m' c x = 1 from if_pos ⟨hx.1, by omega⟩), if_neg (by omega), el2, g0, g1, if_neg (by omega)]
        · rw [el, g0, gL3 ⟨by omega, by omega⟩, ← wg, show o (lay mu (c + 2) 0 x) = i by omega]
        · rw [el, g0, sL3 ⟨by omega, by omega⟩ ⟨by omega, by omega⟩]
          exact (law_cls O A hN F R' lm (Bd.up9 bd (by omega) _ _ ⟨by omega, by omega⟩) B2 rfl).2.2
theorem act_w (O : Od c h t p b q w) (A : Wi N mu c h t p b w) (hN : 1000000 ≤ N ∧ N ≤ 10000000) {x : Int} (hx : 0 ≤ x ∧ x < mu w 2) :
    (jX mu w x = 0 → foF mu c x = 3) ∧
    (¬ jX mu w x = 0 → (0 ≤ mu (w + 2) (4 * x + 2) ∧ mu (w + 2) (4 * x + 2) < 5) ∧ ∀ m' : Mem, m' = up mu (w + 2) (20 + mu (w + 2) (4 * x + 2)) x → Wo m' c h t p ∧ foF m' c x = 0 ∧
      gL (lay (pshM m' c h) (c + 2)) 4 (gL (lay (pshM m' c h) (c + 2)) 0 x - 16) = mu (w + 2) (20 + mu (w + 2) (4 * x + 2)) ∧
      Wi (N + 20) (putL (pshM m' c h) (c + 2) (sL (lay (pshM m' c h) (c + 2)) 4 (gL (lay (pshM m' c h) (c + 2)) 0 x - 16) x)) c h t p b w) := by
  have H := A.ly
  have p5 := A.p5
  have np := A.lr.np
  obtain ⟨T, hT⟩ := A.cw.lyt
  have bd := A.cw.bd9 (by omega)
  obtain ⟨st, op⟩ := A.lr.stt9 H (a := x) ⟨hx.1, by omega⟩
  have px : pnF mu c x = 1 := if_pos ⟨hx.1, by omega⟩
  have g0 : gL (lay mu (c + 2)) 0 x = lay mu (c + 2) 0 x := gL0 ⟨by omega, by omega⟩
  have ap := A.lr.grp x hx.1 (by omega)
  refine ⟨fun z => ?_, fun z => ?_⟩
  · unfold foF
    rw [if_pos px, if_pos (by omega)]
  · have s0 : lay mu (c + 2) 0 x ≠ -1 := stt0 ⟨hx.1, by omega⟩ (by omega)
    obtain ⟨op1, op2⟩ := op s0
    rw [if_neg s0] at ap
    have ow := H.wf.own x hx.1 (by omega) s0 (by omega)
    have ac := A.lr.act (lay mu (c + 2) 0 x) op1.1 op1.2 (Or.inl (by omega))
    refine ⟨by omega, fun m' em => ?_⟩
    rw [ap] at em ⊢
    rw [show 20 + (lay mu (c + 2) 0 x - 16) = 4 + lay mu (c + 2) 0 x by omega] at em ⊢
    have B2 := act_Lr (v := x) A.lr (g := lay mu (c + 2) 0 x) op1 p5.2
    have F : Fr mu m' w := by rw [em]; exact (Fr.rf mu w).up (Or.inr (Or.inr (Or.inr ⟨rfl, by omega⟩)))
    rw [← em] at B2
    have R' : R32 m' := by rw [em]; exact R32_up A.cw.2 _ _ ⟨by omega, by omega⟩
    obtain ⟨W, el, el2, ec⟩ := law_see O A hN F R'
    have O' := O
    obtain ⟨o1, o2, o3, o4, o5, o6⟩ := O'
    have e : ∀ (k : Nat) (i : Int), k < w → m' k i = mu k i := fun k i hk => F.off k i (Or.inl hk)
    refine ⟨W, ?_, by rw [el, g0, gL4 ⟨by omega, by omega⟩, ac], ?_⟩
    · unfold foF
      rw [if_pos (show pnF m' c x = 1 from if_pos ⟨hx.1, by omega⟩), el2, if_neg (by omega)]
    · rw [el, g0, sL4 ⟨by omega, by omega⟩ ⟨by omega, by omega⟩]
      obtain ⟨u, Ru⟩ := hT.rl
      have us := Ru.pus (p := x) ⟨by omega, by omega⟩ s0
      have C := A.cw.off O e R'
      have nx := C.nxt
      obtain ⟨⟨s, past, tx, np', nt, C⟩, -⟩ := C
      have lyt := C.st.lyt
      rw [ec, el2] at lyt
      obtain ⟨u', Ru'⟩ := lyt.rl
      have us' := Ru'.pus (p := x) ⟨by omega, by omega⟩ s0
      have l1 := (lyt.active Ru' us' (by omega) (v := x) ⟨by omega, by omega⟩).mono (show N ≤ N + 20 by omega) (Int.le_refl _)
      have B := Bd.up9 (M := N + 20) bd (by omega) 4 (lay mu (c + 2) 0 x - 16) (v := x) ⟨by omega, by omega⟩
      generalize up (trS s 35) 4 (u' (lay mu (c + 2) 0 x)) x = T' at l1
      generalize hL' : up (lay mu (c + 2)) 4 (lay mu (c + 2) 0 x - 16) x = L' at *
      obtain ⟨p1, p2, p3, p4, p5', p6, p7⟩ := C.psh9 O R'
      have e2 : pshM m' c h c 2 = mu c 2 := by rw [p7 _ _ (by omega), ec]
      have stt : RS (N + 20) (putL (pshM m' c h) (c + 2) L') c (ptS s T') := by
        refine p1.lay (by omega) ?_ fun i h1 h2 h3 => ptS_x _ _ h3
        rw [e2]
        exact l1.cT (trS_ptS _ _) (l1.tb.pt _)
      have R1 : R32 (putL (pshM m' c h) (c + 2) L') := R32_putL p6 (B.r32 (by omega))
      obtain ⟨c1, c3⟩ := C.cls39 (M := N + 20) O R' (by omega) stt (fun k i hk => putL_x (by omega) i) ((p5'.mono (by omega)).putL B) ⟨by rw [putL_x (by omega), p7 _ _ (by omega)], by rw [putL_x (by omega), p7 _ _ (by omega)]⟩ (fun i => by rw [putL_x (by omega), p7 _ _ (by omega)]) (fun k hk => by
        funext i
        rw [el2]
        show (if _ then _ else _) = _
        by_cases z9 : k ≤ 7
        · rw [if_pos z9]
          show (if _ then _ else _) = _
          rw [if_pos (by omega), ← hL', up_a _ _ _ _ (by omega), show c + 2 + 1 + k - (c + 2 + 1) = k by omega]
        · rw [if_neg z9]
          show _ = if _ then _ else _
          rw [if_neg z9])
      have eL : ∀ (k : Nat) (i : Int), k < 8 → lay (putL (pshM m' c h) (c + 2) L') (c + 2) k i = L' k i := fun k i hk => by
        rw [lay_e hk]
        show (if _ then _ else _) = _
        rw [if_pos (by omega), show c + 2 + 1 + k - (c + 2 + 1) = k by omega]
      have ew : ∀ i : Int, putL (pshM m' c h) (c + 2) L' c i = mu c i := fun i => by rw [putL_x (by omega), p7 _ _ (by omega), e _ _ (by omega)]
      have ew1 : ∀ i : Int, putL (pshM m' c h) (c + 2) L' (c + 1) i = mu (c + 1) i := fun i => by rw [putL_x (by omega), p7 _ _ (by omega), e _ _ (by omega)]
      refine Wi.mk9 O ⟨⟨_, _, _, _, _, c1⟩, R1⟩ (Fr.rf _ w) R1 (B2.mvm (fun a i h1 h2 => c3 a i h1)) (l1.ly9 A.p5) (ew 2) eL ⟨?_, ?_⟩ (fun k k1 k2 => ?_)
      · rw [c3 w 0 (by omega), ew, F.hd.1]; exact A.hd.1
      · rw [c3 w 1 (by omega), ew, F.hd.2.1]; exact A.hd.2
      · have f := F.lst k k1 (by omega)
        rw [c3 (w + 2) (4 * k) (by omega), c3 (w + 2) (4 * k + 1) (by omega), ew1, ew1, f.1, f.2]
        exact A.ls k k1 k2
end T4
