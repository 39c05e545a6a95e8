/-! THE CHANGES: new panes, activate, save, bringBack, undo -/
section OPS
variable {N : Int} {mu : Mem} {c h t p b q r : Nat}
theorem fn0 {x y : Int} (hf : fnF mu c x y = 0) : mu c 2 < 16 ∧ (1 ≤ x ∧ x ≤ 60) ∧ 1 ≤ y ∧ y ≤ 60 := by
  unfold fnF at hf
  by_cases k : feF x y = 0
  · rw [if_pos k] at hf
    unfold feF at k
    split at hf
    · split at k
      · omega
      · omega
    · omega
  · rw [if_neg k] at hf; omega
theorem O_add_f (A : Inv N mu c h t p b r) (x y : Int) : (if adF (mu (r + 1) 2) x y = 1 then 2 else if adF (mu (r + 1) 2) x y = 2 then 3 else adF (mu (r + 1) 2) x y) = fnF mu c x y := by
  obtain ⟨e, P, -⟩ := A.base
  unfold adF fnF feF
  rw [e]
  (repeat' split) <;> omega
theorem LR.room {N : Int} {L T : Mem} {P : Int} (A : LR N L T P) (hN : 100 ≤ N) (hP : 0 ≤ P ∧ P < 16) : LR N L (up (up T 9 P (-1)) 10 P 0) P := by
  obtain ⟨⟨u, R⟩, F, C, V, B⟩ := A
  have l0 := C P (by omega) hP.2
  refine LR.mk ⟨u, ?_⟩ F C V ((B.upd _ _ (by omega) (by omega) (by omega)).upd _ _ (by omega) (by omega) (by omega))
  have e : ∀ (w : Nat) (o : Int), w ≤ 8 → up (up T 9 P (-1)) 10 P 0 w o = T w o := fun w o hw => by rw [up_a _ _ _ _ (by omega), up_a _ _ _ _ (by omega)]
  obtain ⟨wf, kk, rng, inj, sur, knd, par, pos, wt, act, box, pan, pla⟩ := R
  refine Rl.mk wf kk rng inj ?_ ?_ ?_ ?_ ?_ ?_ ?_ ?_ ?_
  · intro o h1 h2 h3; rw [e _ _ (by omega)] at h3; exact sur o h1 h2 h3
  · intro g hg; rw [e _ _ (by omega)]; exact knd g hg
  · intro g hg; rw [e _ _ (by omega)]; exact par g hg
  · intro g hg; rw [e _ _ (by omega)]; exact pos g hg
  · intro g hg; rw [e _ _ (by omega)]; exact wt g hg
  · intro g hg; rw [e _ _ (by omega)]; exact act g hg
  · intro g hg; rw [e _ _ (by omega), e _ _ (by omega), e _ _ (by omega), e _ _ (by omega)]; exact box g hg
  · intro k h1 h2
    rw [up_a _ _ _ _ (by omega), up_e]
    by_cases z : k = P
    · rw [if_pos ⟨rfl, z⟩, z, if_pos l0]
    · rw [if_neg (by omega)]; exact pan k h1 h2
  · intro k h1 h2 h3
    rw [up_e]
    by_cases z : k = P
    · rw [z] at h3; exact absurd l0 h3
    · rw [if_neg (by omega), up_a _ _ _ _ (by omega)]; exact pla k h1 h2 h3
theorem O_add (O : Od c h t p b q r) (A : Inv N mu c h t p b r) (hN : 1000000 ≤ N ∧ N ≤ 10000000) {x y : Int} (hf : fnF mu c x y = 0) {mu1 : Mem} (e1 : mu1 = stlM (apM (pshM mu c h) c x y) p c) :
    mu1 c 2 - 1 = adM (hdM mu1 r) r (trT mu1 r) x y r 19 ∧ mu1 (r + 1) 2 = mu (r + 1) 2 ∧ MWo mu1 r ∧ Inv (N + 20) (enM (adM (hdM mu1 r) r (trT mu1 r) x y) r) c h t p b r ∧ enM (adM (hdM mu1 r) r (trT mu1 r) x y) r r 7 = 0 := by
  obtain ⟨f1, f2, f3⟩ := fn0 hf
  obtain ⟨p1, p2, p3, p4, p5, p6, p7⟩ := A.psh O
  obtain ⟨eb, P, Lr⟩ := A.base
  have mw := A.mw (by omega)
  have o1 := O.1
  have e2 : pshM mu c h c 2 = mu c 2 := p7 _ _ (by omega)
  have cl := clM_e (m := pshM mu c h) (c := c) (pp := mu c 2) (w := x) (v := y) (by omega) f2 f3
  have ap : apM (pshM mu c h) c x y = up (up (up (pshM mu c h) (c + 1) (2 * mu c 2) x) (c + 1) (2 * mu c 2 + 1) y) c 2 (mu c 2 + 1) := by
    unfold apM
    rw [e2, cl, up_a _ _ _ _ (by omega), up_a _ _ _ _ (by omega), e2, wr_id (by omega)]
  rw [ap] at e1
  generalize hT : up (up (trT mu r) 9 (mu c 2) (-1)) 10 (mu c 2) 0 = T'
  have l1 := (Lr.room (by omega) ⟨P.1, f1⟩).mono (show N ≤ N + 20 by omega) (Int.le_refl _)
  rw [hT] at l1
  have sm : ∀ i : Int, i < 2 ∨ 35 ≤ i → (fun i => if i = 2 then mu c 2 + 1 else if i = 3 + 2 * mu c 2 + 1 then y else if i = 3 + 2 * mu c 2 then x else mu (r + 1) i) i = mu (r + 1) i := fun i hi => by
    show (if _ then _ else _) = _
    rw [if_neg (by omega), if_neg (by omega), if_neg (by omega)]
  have st : RS (N + 20) (up (up (up (pshM mu c h) (c + 1) (2 * mu c 2) x) (c + 1) (2 * mu c 2 + 1) y) c 2 (mu c 2 + 1)) c (ptS (fun i => if i = 2 then mu c 2 + 1 else if i = 3 + 2 * mu c 2 + 1 then y else if i = 3 + 2 * mu c 2 then x else mu (r + 1) i) T') := by
    refine p1.least (P := mu c 2 + 1) (pp := mu c 2) (w := x) (v := y) (by omega) (by omega) (by omega) f2 f3 ⟨by rw [up_e, if_neg (by omega), up_a _ _ _ _ (by omega), up_a _ _ _ _ (by omega)], by rw [up_e, if_neg (by omega), up_a _ _ _ _ (by omega), up_a _ _ _ _ (by omega)], by rw [up_e, if_pos ⟨rfl, rfl⟩]⟩ (fun i h1 h2 => ?_) (fun k i h1 h2 => ?_) ?_ (fun i h1 h2 => ?_) (fun i h1 h2 => ?_) ?_ (fun i h1 h2 => ?_)
    · rw [up_a _ _ _ _ (by omega), up_e, up_e]
      by_cases a : i = 2 * mu c 2 + 1
      · rw [if_pos ⟨rfl, a⟩, if_pos a]
      · rw [if_neg (by omega), if_neg a]
        by_cases b : i = 2 * mu c 2
        · rw [if_pos ⟨rfl, b⟩, if_pos b]
        · rw [if_neg (by omega), if_neg b]
    · rw [up_a _ _ _ _ (by omega), up_a _ _ _ _ (by omega), up_a _ _ _ _ (by omega)]
    · rw [ptS_x _ _ (by omega)]
      exact if_pos rfl
    · rw [ptS_x _ _ (by omega)]
      show (if _ then _ else _) = _
      rw [if_neg (by omega)]
      by_cases a : i = 2 * mu c 2 + 1
      · rw [if_pos (by omega), if_pos a]
      · rw [if_neg (by omega), if_neg a]
        by_cases b : i = 2 * mu c 2
        · rw [if_pos (by omega), if_pos b]
        · rw [if_neg (by omega), if_neg b]
    · rw [ptS_x _ _ (by omega)]; exact sm i (by omega)
    · rw [lay_pshM A.1.hy.nxt o1, e2]
      exact l1.cT (trS_ptS _ _) (l1.tb.pt _)
    · rw [ptS_x _ _ (by omega)]; exact sm i (by omega)
  obtain ⟨c1, c2, c3⟩ := A.cls2 (M := N + 20) O (by omega) st (fun k i hk => by rw [up_a _ _ _ _ (by omega), up_a _ _ _ _ (by omega), up_a _ _ _ _ (by omega)]) ((((p5.up _ _ (v := x) (fun _ => by omega)).up _ _ (v := y) (fun _ => by omega)).up _ _ (v := mu c 2 + 1) (fun _ => by omega)).mono (by omega)) (R32_up (R32_up (R32_up p6 _ _ (by omega)) _ _ (by omega)) _ _ (by omega))
  have c9 : mu1 c 2 = mu c 2 + 1 := by
    rw [e1, stlM_x _ _ (by unfold Od at O; omega), up_e, if_pos ⟨rfl, rfl⟩]
  rw [← e1] at c1 c2 c3
  have eT := trT_off c3
  have h2 : hdM mu1 r (r + 1) 2 = mu c 2 := by rw [hdM_x _ _ (by omega), c3 _ _ (by omega), eb]
  have am : adM (hdM mu1 r) r (trT mu1 r) x y = ptT (up (up (up (up (hdM mu1 r) r 19 (mu c 2)) (r + 1) (3 + 2 * mu c 2) x) (r + 1) (3 + 2 * mu c 2 + 1) y) (r + 1) 2 (mu c 2 + 1)) r T' := by
    unfold adM adB
    rw [h2, eT, hT]
  have I := Inv.ref O A.1.hy.cnt.2 c1 c3 (m := adM (hdM mu1 r) r (trT mu1 r) x y) (by
    rw [am]
    exact R32_ptT (R32_up (R32_up (R32_up (R32_up (hdM_R c2 r) _ _ (by omega)) _ _ (by omega)) _ _ (by omega)) _ _ (by omega)) l1.tb (by omega)) (fun k i h1 h2 => by
      rw [am, ptT_x _ _ _ h1, up_a _ _ _ _ h1, up_a _ _ _ _ h1, up_a _ _ _ _ h1, up_e, if_neg (by omega)]) (fun i h1 h2 => by
    rw [am, ptT_1]
    unfold ptS
    split
    · rfl
    · rw [up_e, up_e, up_e, up_a _ _ _ _ (by omega), hdM_x _ _ (by omega), c3 _ _ (by omega)]
      show _ = (if _ then _ else _)
      by_cases d : i = 2
      · rw [if_pos ⟨rfl, d⟩, if_pos d]
      · rw [if_neg (by omega), if_neg d]
        by_cases a : i = 3 + 2 * mu c 2 + 1
        · rw [if_pos ⟨rfl, a⟩, if_pos a]
        · rw [if_neg (by omega), if_neg a]
          by_cases b : i = 3 + 2 * mu c 2
          · rw [if_pos ⟨rfl, b⟩, if_pos b]
          · rw [if_neg (by omega), if_neg b])
  refine ⟨?_, by rw [c3 _ _ (by omega)], mw.off c2 c3, I.1, I.2⟩
  rw [c9, am, ptT_x _ _ _ (by omega), up_a _ _ _ _ (by omega), up_a _ _ _ _ (by omega), up_a _ _ _ _ (by omega), up_e, if_pos ⟨rfl, rfl⟩]
  omega
/-- a class whose plan stays -/
theorem Inv.cls3 {M : Int} {m : Mem} {s' : Int → Int} (O : Od c h t p b q r) (A : Inv N mu c h t p b r) (hN : N ≤ M) (st : RS M m c s') (eo : ∀ (x : Nat) (i : Int), x < c ∨ c + 49 ≤ x → m x i = pshM mu c h x i) (B : BA M (rowsC c h b) m)
    (e0 : m c 0 = mu c 0 ∧ m c 1 = mu c 1) (e1 : ∀ i : Int, m (c + 1) i = mu (c + 1) i) (e4 : E4 (lay mu (c + 2)) (lay m (c + 2))) :
    CR M m c h t p b s' (pushP (mu (r + 2)) (mu (r + 1)) (mu r 4)) (mu (r + 5)) (min (mu r 4 + 1) 4) (mu r 6) ∧ ∀ (x : Nat) (i : Int), r ≤ x → m x i = mu x i := by
  obtain ⟨p1, p2, p3, p4, p5, p6, p7⟩ := A.psh O
  have O' := O
  obtain ⟨o1, o2, o3, o4, o5, o6⟩ := O'
  obtain ⟨rk, k1, k2⟩ := A.1.pln
  refine ⟨CR.mk st ((p2.mono hN).off (fun x i h1 h2 => eo x i (by omega)) (fun _ _ _ => rfl)) (p3.off fun x i hx => eo x i (by omega)) (by rw [eo _ _ (by omega)]; exact p4) ⟨rk, k1.c (e4 0 (by omega)), ?_⟩ B, fun x i hx => by rw [eo _ _ (by omega), p7 _ _ (by omega)]⟩
  rw [show m (c + 1) = mu (c + 1) from funext e1, e0.1, e0.2]
  refine (k2.e4 e4).rows fun k hk => ?_
  funext i
  show (if _ then _ else _) = (if _ then _ else _)
  rw [if_pos hk, if_pos hk, eo _ _ (by omega), p7 _ _ (by omega)]
theorem O_active_f (A : Inv N mu c h t p b r) (x : Int) : (if avF (trT mu r) (mu (r + 1) 2) x = 2 then 3 else avF (trT mu r) (mu (r + 1) 2) x) = foF mu c x := by
  obtain ⟨e, P, -⟩ := A.base
  unfold avF foF
  rw [e]
  by_cases hx : 0 ≤ x ∧ x < mu c 2
  · rw [if_pos (show pnF mu c x = 1 from pn1.mpr hx), A.sx (x := x) (by omega)]
    (repeat' split) <;> omega
  · rw [if_neg (show ¬ pnF mu c x = 1 from fun w => hx (pn1.mp w))]
    (repeat' split) <;> omega
theorem O_active (O : Od c h t p b q r) (A : Inv N mu c h t p b r) (hN : 1000000 ≤ N ∧ N ≤ 10000000) {x : Int} (hf : foF mu c x = 0) {mu1 : Mem} (e1 : mu1 = putL (pshM mu c h) (c + 2) (sL (lay (pshM mu c h) (c + 2)) 4 (gL (lay (pshM mu c h) (c + 2)) 0 x - 16) x)) :
    gL (lay (pshM mu c h) (c + 2)) 4 (gL (lay (pshM mu c h) (c + 2)) 0 x - 16) = trT mu1 r 4 (trT mu1 r 9 x) ∧ trT mu1 r = trT mu r ∧ mu1 (r + 1) 2 = mu (r + 1) 2 ∧ MWo mu1 r ∧
      Inv (N + 20) (enM (ptT (hdM mu1 r) r (up (trT mu1 r) 4 (trT mu1 r 9 x) x)) r) c h t p b r ∧ enM (ptT (hdM mu1 r) r (up (trT mu1 r) 4 (trT mu1 r 9 x) x)) r r 7 = 0 := by
  obtain ⟨e, P, Lr⟩ := A.base
  obtain ⟨f1, f2⟩ := fo0 hf
  obtain ⟨p1, p2, p3, p4, p5, p6, p7⟩ := A.psh O
  have o1 := O.1
  have e2 : pshM mu c h c 2 = mu c 2 := p7 _ _ (by omega)
  rw [lay_pshM A.1.hy.nxt o1] at e1 ⊢
  have s1 := stt0 (L := lay mu (c + 2)) (x := x) (by omega) f2
  obtain ⟨u, R⟩ := Lr.rl
  have us := R.pus (p := x) (by omega) s1
  have pr := R.wf.pan x (by omega) (by omega)
  rw [gL0 (by omega)] at e1 ⊢
  rw [sL4 (by omega) (by omega)] at e1
  have pt : trT mu r 9 x = u (lay mu (c + 2) 0 x) := by rw [R.pan x (by omega) (by omega), if_neg s1]
  have l1 := (Lr.active R us (by omega) (v := x) (by omega)).mono (show N ≤ N + 20 by omega) (Int.le_refl _)
  generalize hL : up (lay mu (c + 2)) 4 (lay mu (c + 2) 0 x - 16) x = L' at e1 l1
  generalize hT : up (trT mu r) 4 (u (lay mu (c + 2) 0 x)) x = T' at l1
  have B : Bd (N + 20) L' := fun k i => by
    have := (A.1.bd (by omega)).1 k i
    rw [← hL, up_e]; split <;> omega
  have mw := A.mw (by omega)
  have st : RS (N + 20) (putL (pshM mu c h) (c + 2) L') c (ptS (mu (r + 1)) T') := by
    refine p1.lay (by omega) ?_ fun i h1 h2 h3 => ptS_x _ _ h3
    rw [e2]
    exact l1.cT (trS_ptS _ _) (l1.tb.pt _)
  have R1 : R32 (putL (pshM mu c h) (c + 2) L') := R32_putL p6 (B.r32 (by omega))
  obtain ⟨c1, c3⟩ := A.cls3 (M := N + 20) O (by omega) st (fun k i hk => putL_x (by omega) i) ((p5.mono (by omega)).putL B) ⟨by rw [putL_x (by omega), p7 _ _ (by omega)], by rw [putL_x (by omega), p7 _ _ (by omega)]⟩ (fun i => by rw [putL_x (by omega), p7 _ _ (by omega)]) (fun k hk => by
    funext i
    show (if _ then _ else _) = (if _ then _ else _)
    by_cases z : k ≤ 7
    · rw [if_pos z, if_pos z]
      show (if _ then _ else _) = _
      rw [if_pos (by omega), ← hL, up_a _ _ _ _ (by omega), show c + 2 + 1 + k - (c + 2 + 1) = k by omega]
      exact lay_e (by omega) i
    · rw [if_neg z, if_neg z])
  rw [← e1] at c1 c3 R1
  have eT := trT_off c3
  have I := Inv.ref O A.1.hy.cnt.2 c1 c3 (m := ptT (hdM mu1 r) r T') (R32_ptT (hdM_R R1 r) l1.tb (by omega)) (fun k i h1 h2 => ptT_x _ _ _ h1 _) (fun i h1 h2 => by
    rw [ptT_1]
    unfold ptS
    split
    · rfl
    · rw [hdM_x _ r (by omega), c3 _ _ (by omega)])
  rw [eT, pt, hT]
  refine ⟨?_, rfl, by rw [c3 _ _ (by omega)], mw.off R1 c3, I.1, I.2⟩
  rw [gL4 (by omega), R.act _ us (by omega)]
end OPS
