/-! THE CHANGES: edge, float, close, raise, moveTab, setShare -/
theorem cntG {u : Int → Int} {L T Q : Mem} (R : Rl u L T (-1) 1) (O : Ord L Q) : Q 0 9 - Q 0 10 = ctT T 1 := by
  have n0 := O.n0
  have e := smG_name (f := ind T 0 1) (u := fun k => u (Q 2 k)) (fun _ => True) (Q 0 9).toNat 32
    (fun k h1 h2 _ => R.rng _ (O.rng k h1 (by omega)).1)
    (fun k l h1 h2 h3 h4 _ _ e => O.inj k l h1 (by omega) h3 (by omega) (R.inj _ _ (O.rng k h1 (by omega)).1 (O.rng l h3 (by omega)).1 e))
    (fun o h1 h2 h3 => by
      have t1 : T 0 o = 1 := by
        unfold ind at h3
        by_cases z : T 0 o = 1
        · exact z
        · rw [if_neg z] at h3; exact absurd rfl h3
      obtain ⟨g, g1, rfl⟩ := R.sur o h1 (by omega) (by omega)
      have kg := R.knd g g1
      have gx := R.wf.axs g
      have gb := g1.1
      have : L 0 g ≠ 48 := by
        intro z
        unfold kindL at kg
        have := R.wf.spl g
        by_cases y : g < 32
        · rw [if_pos y, if_neg (by omega), if_pos z] at kg; omega
        · omega
      obtain ⟨k, k1, k2, k3⟩ := O.all g ⟨g1, this⟩
      exact ⟨k, k1, by omega, trivial, by rw [k3]⟩)
  unfold ctT
  rw [e, O.sp]
  have : (Q 0 9) = smG (fun _ => 1) (Q 0 9).toNat := by
    have : ∀ m : Nat, smG (fun _ => 1) m = m := by
      intro m
      induction m with
      | zero => rfl
      | succ m ih => unfold smG; rw [ih]; omega
    rw [this]; omega
  have t : smG (fun k => if True then ind T 0 1 (u (Q 2 k)) else 0) (Q 0 9).toNat = smG (fun k => (fun _ => 1) k - (fun k => if isZ (Q 2 k) then 1 else 0) k) (Q 0 9).toNat := by
    refine smG_ext _ fun k h1 h2 => ?_
    have hx := O.rng k h1 (by omega)
    have kg := R.knd _ hx.1
    have gx := R.wf.axs (Q 2 k)
    have gb := hx.1.1
    show (if True then ind T 0 1 (u (Q 2 k)) else 0) = 1 - (if isZ (Q 2 k) then 1 else 0)
    rw [if_pos trivial]
    unfold ind
    rw [kg]
    unfold kindL isZ
    have hx2 := hx.2
    clear e hx O R this kg
    (repeat' split) <;> omega
  rw [t, smG_sub, ← this]
section OPS
variable {N : Int} {mu : Mem} {c h t p b q r : Nat}
theorem Inv.chg (O : Od c h t p b q r) (A : Inv N mu c h t p b r) (hN : 1000000 ≤ N ∧ N ≤ 10000000) {L' T' mu1 : Mem} (l : LR (N + 20) L' T' (mu c 2)) (B : Bd (N + 20) L') (e1 : mu1 = stlM (putL (pshM mu c h) (c + 2) L') p c) :
    trT mu1 r = trT mu r ∧ mu1 (r + 1) 2 = mu c 2 ∧ MWo mu1 r ∧ (∀ (k : Nat) (i : Int), k < 8 → lay mu1 (c + 2) k i = L' k i) ∧ (∀ v : Int, -2147483648 ≤ v ∧ v ≤ 2147483647 → Inv (N + 20) (enM (ptT (up (hdM mu1 r) r 19 v) r T') r) c h t p b r ∧ enM (ptT (up (hdM mu1 r) r 19 v) r T') r r 7 = 0) ∧
      (Inv (N + 20) (enM (ptT (hdM mu1 r) r T') r) c h t p b r ∧ enM (ptT (hdM mu1 r) r T') r r 7 = 0) ∧ ∃ rk : Int → Nat, RK (lay mu1 (c + 2)) rk ∧ PlE (lay mu1 (c + 2)) (mu1 (c + 1)) (mu1 c 0) (mu1 c 1) rk (pl mu1 p) := by
  obtain ⟨e, P, Lr⟩ := A.base
  obtain ⟨c1, c2, c3⟩ := A.cls O (by omega) l B
  have mw := A.mw (by omega)
  have I := fun v hv => A.mut O (M := N + 20) (v := v) (by omega) l B hv
  have J := A.mut0 O (M := N + 20) (by omega) l B
  subst e1
  have eT := trT_off c3
  refine ⟨eT, by rw [c3 _ _ (by omega), e], ⟨c2, ?_, ?_, ?_, ?_⟩, fun k i hk => lay_mut (by have := O; unfold Od at this; omega) hk i, I, J, c1.pln⟩
  · rw [eT]; exact mw.2.1
  · rw [c3 _ _ (by omega)]; exact mw.2.2.1
  · rw [c3 _ _ (by omega)]; exact mw.2.2.2.1
  · rw [c3 _ _ (by omega)]; exact mw.2.2.2.2
/-- dock at an edge -/
theorem O_edge_f (A : Inv N mu c h t p b r) (x z : Int) : egF (mu (r + 1) 2) x z = fgF mu c x z := by
  obtain ⟨e, P, -⟩ := A.base
  unfold egF fgF pnF frF
  rw [e]
  (repeat' split) <;> omega
theorem fg0 {x z : Int} (hf : fgF mu c x z = 0) : (0 ≤ x ∧ x < mu c 2) ∧ 0 ≤ z ∧ z ≤ 3 := by
  unfold fgF frF at hf
  split at hf
  · rename_i w
    split at hf
    · exact ⟨pn1.mp w, by omega⟩
    · omega
  · omega
theorem O_edge (O : Od c h t p b q r) (A : Inv N mu c h t p b r) (hN : 1000000 ≤ N ∧ N ≤ 10000000) {x z : Int} (hf : fgF mu c x z = 0) {mu1 : Mem} (e1 : mu1 = stlM (putL (pshM mu c h) (c + 2) (dwF (lay (pshM mu c h) (c + 2)) x z)) p c) :
    okE (trT mu1 r) (mu1 (r + 1) 2) x z ∧ mu1 p 9 - mu1 p 10 = ctT (egC (trT mu1 r) (mu1 (r + 1) 2) x z) 1 ∧ trT mu1 r = trT mu r ∧ mu1 (r + 1) 2 = mu (r + 1) 2 ∧ MWo mu1 r ∧
      Inv (N + 20) (enM (ptT (up (hdM mu1 r) r 19 (ctT (egC (trT mu1 r) (mu1 (r + 1) 2) x z) 1)) r (egC (trT mu1 r) (mu1 (r + 1) 2) x z)) r) c h t p b r ∧ enM (ptT (up (hdM mu1 r) r 19 (ctT (egC (trT mu1 r) (mu1 (r + 1) 2) x z) 1)) r (egC (trT mu1 r) (mu1 (r + 1) 2) x z)) r r 7 = 0 := by
  obtain ⟨e, P, Lr⟩ := A.base
  obtain ⟨f1, f2⟩ := fg0 hf
  rw [lay_pshM A.1.hy.nxt O.1] at e1
  obtain ⟨l1, l2⟩ := Lr.edge f1 f2 P.2 (by omega)
  obtain ⟨g1, g2, g3, g4, g5, -, rk, -, g6⟩ := A.chg O hN (l1.mono (by omega) (Int.le_refl _)) ((dwF_bd (A.1.bd (by omega)).1 (by omega) (by omega) z).mono (by omega)) e1
  have cb := ctT_b (egC (trT mu r) (mu c 2) x z) 1
  have G := g5 (ctT (egC (trT mu r) (mu c 2) x z) 1) (by omega)
  rw [g1, g2, e]
  refine ⟨l2, ?_, rfl, rfl, g3, G.1, G.2⟩
  obtain ⟨⟨u, R⟩, -⟩ := l1
  have R' : Rl u (lay mu1 (c + 2)) (egC (trT mu r) (mu c 2) x z) (-1) 1 := R.c (fun k i hk _ _ => g4 k i hk) (fun _ _ _ _ _ => rfl)
  exact cntG R' g6.p0.od
/-- float -/
theorem O_float_f (A : Inv N mu c h t p b r) (x y z w v : Int) : flF9 (mu (r + 1) 2) x y z w v = fflF mu c x y z w v := by
  obtain ⟨e, P, -⟩ := A.base
  unfold flF9 fflF pnF
  rw [e]
  (repeat' split) <;> omega
theorem ffl0 {x y z w v : Int} (hf : fflF mu c x y z w v = 0) : (0 ≤ x ∧ x < mu c 2) ∧ (0 ≤ y ∧ y ≤ 399) ∧ (0 ≤ z ∧ z ≤ 399) ∧ (1 ≤ w ∧ w ≤ 400) ∧ (1 ≤ v ∧ v ≤ 400) := by
  unfold fflF at hf
  split at hf
  · rename_i k
    have := pn1.mp k
    split at hf
    · omega
    · omega
  · omega
theorem O_float (O : Od c h t p b q r) (A : Inv N mu c h t p b r) (hN : 1000000 ≤ N ∧ N ≤ 10000000) {x y z w v : Int} (hf : fflF mu c x y z w v = 0) {mu1 : Mem} (e1 : mu1 = stlM (putL (pshM mu c h) (c + 2) (flF (lay (pshM mu c h) (c + 2)) x y z w v)) p c) :
    okF (trT mu1 r) (mu1 (r + 1) 2) x ∧ gL (lay mu1 (c + 2)) 2 48 = ctT (tkT (trT mu1 r) (mu1 (r + 1) 2) x) 4 + 1 ∧ trT mu1 r = trT mu r ∧ mu1 (r + 1) 2 = mu (r + 1) 2 ∧ MWo mu1 r ∧
      Inv (N + 20) (enM (ptT (up (hdM mu1 r) r 19 (ctT (tkT (trT mu1 r) (mu1 (r + 1) 2) x) 4 + 1)) r (flT (trT mu1 r) (mu1 (r + 1) 2) x y z w v)) r) c h t p b r ∧ enM (ptT (up (hdM mu1 r) r 19 (ctT (tkT (trT mu1 r) (mu1 (r + 1) 2) x) 4 + 1)) r (flT (trT mu1 r) (mu1 (r + 1) 2) x y z w v)) r r 7 = 0 := by
  obtain ⟨e, P, Lr⟩ := A.base
  obtain ⟨f1, f2, f3, f4, f5⟩ := ffl0 hf
  rw [lay_pshM A.1.hy.nxt O.1] at e1
  obtain ⟨l1, l2, l3⟩ := Lr.float f1 P.2 (by omega) f2 f3 f4 f5
  obtain ⟨g1, g2, g3, g4, g5, -, -⟩ := A.chg O hN (l1.mono (by omega) (Int.le_refl _)) ((flF_bd (A.1.bd (by omega)).1 (by omega) (by omega) (by omega) (by omega) (by omega) (by omega)).mono (by omega)) e1
  have cb := ctT_b (tkT (trT mu r) (mu c 2) x) 4
  have G := g5 (ctT (tkT (trT mu r) (mu c 2) x) 4 + 1) (by omega)
  rw [g1, g2, e]
  refine ⟨l2, ?_, rfl, rfl, g3, G.1, G.2⟩
  rw [gL2 (by omega), g4 _ _ (by omega), l3]
/-- close -/
theorem O_close_f (A : Inv N mu c h t p b r) (x : Int) : clF (mu (r + 1) 2) x = fpF mu c x := by
  obtain ⟨e, P, -⟩ := A.base
  unfold clF fpF pnF
  rw [e]
  (repeat' split) <;> omega
theorem fp0 {x : Int} (hf : fpF mu c x = 0) : 0 ≤ x ∧ x < mu c 2 := by
  unfold fpF at hf
  split at hf
  · rename_i k; exact pn1.mp k
  · omega
theorem O_close (O : Od c h t p b q r) (A : Inv N mu c h t p b r) (hN : 1000000 ≤ N ∧ N ≤ 10000000) {x : Int} (hf : fpF mu c x = 0) {mu1 : Mem} (e1 : mu1 = stlM (putL (pshM mu c h) (c + 2) (tkF (lay (pshM mu c h) (c + 2)) x)) p c) :
    okT (trT mu1 r) (mu1 (r + 1) 2) x ∧ sttF (lay (pshM mu c h) (c + 2)) x = sxT (trT mu1 r) x ∧ trT mu1 r = trT mu r ∧ mu1 (r + 1) 2 = mu (r + 1) 2 ∧ MWo mu1 r ∧
      Inv (N + 20) (enM (ptT (up (hdM mu1 r) r 19 (sxT (trT mu1 r) x)) r (tkT (trT mu1 r) (mu1 (r + 1) 2) x)) r) c h t p b r ∧ enM (ptT (up (hdM mu1 r) r 19 (sxT (trT mu1 r) x)) r (tkT (trT mu1 r) (mu1 (r + 1) 2) x)) r r 7 = 0 := by
  obtain ⟨e, P, Lr⟩ := A.base
  have f1 := fp0 hf
  rw [lay_pshM A.1.hy.nxt O.1] at e1 ⊢
  obtain ⟨l1, l2⟩ := Lr.take f1 P.2 (by omega)
  obtain ⟨g1, g2, g3, g4, g5, -, -⟩ := A.chg O hN (l1.mono (by omega) (Int.le_refl _)) ((tkF_bd (A.1.bd (by omega)).1 (by omega) x).mono (by omega)) e1
  have cb := sxT_b (trT mu r) x
  have G := g5 (sxT (trT mu r) x) (by omega)
  rw [g1, g2, e]
  exact ⟨l2, (A.sx (by omega)).symm, rfl, rfl, g3, G.1, G.2⟩
/-- raise -/
theorem O_raise_f (A : Inv N mu c h t p b r) (x : Int) : (if rzF (trT mu r) (mu (r + 1) 2) x = 0 then 0 else if rzF (trT mu r) (mu (r + 1) 2) x = 1 then 1 else 3) = faF mu c x := by
  obtain ⟨e, P, -⟩ := A.base
  unfold rzF faF
  rw [e]
  by_cases hx : 0 ≤ x ∧ x < mu c 2
  · rw [if_pos (show pnF mu c x = 1 from pn1.mpr hx), A.sx (x := x) (by omega)]
    (repeat' split) <;> omega
  · rw [if_neg (show ¬ pnF mu c x = 1 from fun w => hx (pn1.mp w))]
    (repeat' split) <;> omega
theorem fa0 {x : Int} (hf : faF mu c x = 0) : (0 ≤ x ∧ x < mu c 2) ∧ sttF (lay mu (c + 2)) x = 2 := by
  unfold faF at hf
  split at hf
  · rename_i k
    split at hf
    · rename_i z; exact ⟨pn1.mp k, z⟩
    · omega
  · omega
theorem stt2 {L : Mem} {x : Int} (hx : 0 ≤ x ∧ x < 16) (h : sttF L x = 2) : L 0 x ≠ -1 ∧ aL L 0 (L 0 x) = 48 := by
  unfold sttF at h
  rw [aL_0 ⟨hx.1, by omega⟩] at h
  split at h
  · omega
  · rename_i z
    split at h
    · rename_i y; exact ⟨z, y⟩
    · omega
theorem stt0 {L : Mem} {x : Int} (hx : 0 ≤ x ∧ x < 16) (h : sttF L x ≠ 0) : L 0 x ≠ -1 := by
  intro z
  unfold sttF at h
  rw [aL_0 ⟨hx.1, by omega⟩, if_pos z] at h
  exact h rfl
theorem O_raise (O : Od c h t p b q r) (A : Inv N mu c h t p b r) (hN : 1000000 ≤ N ∧ N ≤ 10000000) {x : Int} (hf : faF mu c x = 0) {mu1 : Mem} (e1 : mu1 = stlM (putL (pshM mu c h) (c + 2) (raF (lay (pshM mu c h) (c + 2)) (gL (lay (pshM mu c h) (c + 2)) 0 x))) p c) :
    aL (lay (pshM mu c h) (c + 2)) 1 (gL (lay (pshM mu c h) (c + 2)) 0 x) = trT mu1 r 2 (trT mu1 r 9 x) ∧ trT mu1 r = trT mu r ∧ mu1 (r + 1) 2 = mu (r + 1) 2 ∧ MWo mu1 r ∧
      Inv (N + 20) (enM (ptT (hdM mu1 r) r (rzT (trT mu1 r) (trT mu1 r 9 x))) r) c h t p b r ∧ enM (ptT (hdM mu1 r) r (rzT (trT mu1 r) (trT mu1 r 9 x))) r r 7 = 0 := by
  obtain ⟨e, P, Lr⟩ := A.base
  obtain ⟨f1, f2⟩ := fa0 hf
  rw [lay_pshM A.1.hy.nxt O.1] at e1 ⊢
  obtain ⟨s1, s2⟩ := stt2 (by omega) f2
  obtain ⟨u, R⟩ := Lr.rl
  have us := R.pus (p := x) (by omega) s1
  have pr := R.wf.pan x (by omega) (by omega)
  rw [gL0 (by omega)] at e1 ⊢
  rw [aL_0 (by omega)] at s2
  have l1 := Lr.raise R us s2 (by omega)
  have pt : trT mu r 9 x = u (lay mu (c + 2) 0 x) := by rw [R.pan x (by omega) (by omega), if_neg s1]
  obtain ⟨g1, g2, g3, g4, -, G, -⟩ := A.chg O hN (l1.mono (by omega) (Int.le_refl _)) ((raF_bd (A.1.bd (by omega)).1 (by omega) _).mono (by omega)) e1
  rw [g1, g2, e, pt]
  refine ⟨?_, rfl, rfl, g3, G.1, G.2⟩
  rw [aL_1 (by omega), R.pos _ us (by omega)]
/-- moveTab -/
theorem O_move_f (A : Inv N mu c h t p b r) (x y : Int) : (if mtF (trT mu r) (mu (r + 1) 2) x y = 2 then 3 else if mtF (trT mu r) (mu (r + 1) 2) x y = 3 then 2 else mtF (trT mu r) (mu (r + 1) 2) x y) = fmF mu c x y := by
  obtain ⟨e, P, Lr⟩ := A.base
  unfold mtF fmF foF frF
  rw [e]
  by_cases hx : 0 ≤ x ∧ x < mu c 2
  · rw [if_pos (show pnF mu c x = 1 from pn1.mpr hx), A.sx (x := x) (by omega)]
    by_cases z : sttF (lay mu (c + 2)) x = 0
    · (repeat' split) <;> omega
    · obtain ⟨u, R⟩ := Lr.rl
      have s1 := stt0 (L := lay mu (c + 2)) (x := x) (by omega) z
      have us := R.pus (p := x) (by omega) s1
      have pr := R.wf.pan x (by omega) (by omega)
      have pt : trT mu r 9 x = u (lay mu (c + 2) 0 x) := by rw [R.pan x (by omega) (by omega), if_neg s1]
      have tb := R.tabs us (by omega) (P := mu c 2) (by omega) Lr.cl
      rw [pt, tb, gL0 (L := lay mu (c + 2)) (i := x) (by omega), gL2 (L := lay mu (c + 2)) (by omega)]
      (repeat' split) <;> omega
  · rw [if_neg (show ¬ pnF mu c x = 1 from fun w => hx (pn1.mp w))]
    (repeat' split) <;> omega
theorem fo0 {x : Int} (hf : foF mu c x = 0) : (0 ≤ x ∧ x < mu c 2) ∧ sttF (lay mu (c + 2)) x ≠ 0 := by
  unfold foF at hf
  split at hf
  · rename_i k
    split at hf
    · omega
    · rename_i z; exact ⟨pn1.mp k, z⟩
  · omega
theorem fmq0 {x y : Int} (hf : fmF mu c x y = 0) : foF mu c x = 0 ∧ 0 ≤ y ∧ y ≤ gL (lay mu (c + 2)) 2 (gL (lay mu (c + 2)) 0 x) - 1 := by
  unfold fmF frF at hf
  split at hf
  · rename_i k
    split at hf
    · rename_i z; exact ⟨k, z⟩
    · omega
  · rename_i k; exact absurd hf k
theorem O_move (O : Od c h t p b q r) (A : Inv N mu c h t p b r) (hN : 1000000 ≤ N ∧ N ≤ 10000000) {x y : Int} (hf : fmF mu c x y = 0) {mu1 : Mem} (e1 : mu1 = stlM (putL (pshM mu c h) (c + 2) (mvF (lay (pshM mu c h) (c + 2)) x y)) p c) :
    gL (lay (pshM mu c h) (c + 2)) 1 x = trT mu1 r 10 x ∧ trT mu1 r = trT mu r ∧ mu1 (r + 1) 2 = mu (r + 1) 2 ∧ MWo mu1 r ∧
      Inv (N + 20) (enM (ptT (hdM mu1 r) r (mvT (trT mu1 r) (mu1 (r + 1) 2) x y)) r) c h t p b r ∧ enM (ptT (hdM mu1 r) r (mvT (trT mu1 r) (mu1 (r + 1) 2) x y)) r r 7 = 0 := by
  obtain ⟨e, P, Lr⟩ := A.base
  obtain ⟨f0, f3⟩ := fmq0 hf
  obtain ⟨f1, f2⟩ := fo0 f0
  rw [lay_pshM A.1.hy.nxt O.1] at e1 ⊢
  have s1 := stt0 (L := lay mu (c + 2)) (x := x) (by omega) f2
  obtain ⟨u, R⟩ := Lr.rl
  have pr := R.wf.pan x (by omega) (by omega)
  rw [gL0 (L := lay mu (c + 2)) (i := x) (by omega), gL2 (L := lay mu (c + 2)) (by omega)] at f3
  have c16 := R.wf.cnt16 Lr.fu (h := lay mu (c + 2) 0 x) ⟨by omega, by omega⟩
  have l1 := Lr.move f1 P.2 s1 (i := y) (by omega) (by omega)
  obtain ⟨g1, g2, g3, g4, -, G, -⟩ := A.chg O hN (l1.mono (by omega) (Int.le_refl _)) ((mvF_bd (A.1.bd (by omega)).1 (by omega) x (by omega)).mono (by omega)) e1
  rw [g1, g2, e]
  refine ⟨?_, rfl, rfl, g3, G.1, G.2⟩
  rw [gL1 (by omega), R.pla x (by omega) (by omega) s1]
/-- setShare -/
theorem O_share_f (A : Inv N mu c h t p b r) (x w : Int) : wgF (trT mu r) (mu (r + 1) 2) x w = fshF mu c x w := by
  obtain ⟨e, P, Lr⟩ := A.base
  unfold wgF fshF
  rw [e]
  by_cases hx : 0 ≤ x ∧ x < mu c 2
  · rw [if_pos (show pnF mu c x = 1 from pn1.mpr hx), A.sx (x := x) (by omega)]
    by_cases hw : w < 1 ∨ 1000000 < w
    · rw [if_pos hw]; (repeat' split) <;> omega
    · rw [if_neg hw]
      rw [if_neg (show ¬ ¬ (0 ≤ x ∧ x ≤ mu c 2 - 1) by omega), if_neg (show ¬ ¬ (1 ≤ w ∧ w ≤ 1000000) by omega)]
      obtain ⟨u, R⟩ := Lr.rl
      rw [gL0 (L := lay mu (c + 2)) (i := x) (by omega)]
      have pr := R.wf.pan x (by omega) (by omega)
      by_cases z : lay mu (c + 2) 0 x = -1
      · have s0 : sttF (lay mu (c + 2)) x = 0 := by unfold sttF; rw [aL_0 (by omega), if_pos z]
        have g1 : gL (lay mu (c + 2)) 0 (lay mu (c + 2) 0 x) = -1 := by
          rw [z]; unfold gL gK; rw [wr_id (by omega)]; exact if_neg (by omega)
        rw [g1, s0, if_pos (by omega)]
        rfl
      · have us := R.pus (p := x) (by omega) z
        have pt : trT mu r 9 x = u (lay mu (c + 2) 0 x) := by rw [R.pan x (by omega) (by omega), if_neg z]
        have pa := R.par _ us
        have gr := R.wf.grp (lay mu (c + 2) 0 x) (by omega) (by omega)
        rw [pt, gL0 (L := lay mu (c + 2)) (by omega)]
        have st : sttF (lay mu (c + 2)) x = if lay mu (c + 2) 0 (lay mu (c + 2) 0 x) = 48 then 2 else 1 := by
          unfold sttF; rw [aL_0 (i := x) (by omega), if_neg z, aL_0 (by omega)]
        rw [st]
        by_cases y : 32 ≤ lay mu (c + 2) 0 (lay mu (c + 2) 0 x) ∧ lay mu (c + 2) 0 (lay mu (c + 2) 0 x) < 47
        · rw [if_pos y] at pa
          have hs := R.rng _ (R.hus (t := lay mu (c + 2) 0 x) (by omega) y)
          rw [show spF (lay mu (c + 2) 0 (lay mu (c + 2) 0 x)) = 1 from if_pos y, if_neg (show ¬ (1 : Int) = 0 by omega), if_neg (show ¬ lay mu (c + 2) 0 (lay mu (c + 2) 0 x) = 48 by omega), if_neg (by rw [pa]; omega)]
        · rw [if_neg y] at pa
          rw [show spF (lay mu (c + 2) 0 (lay mu (c + 2) 0 x)) = 0 from if_neg y, if_pos rfl, if_pos (Or.inr pa)]
  · rw [if_neg (show ¬ pnF mu c x = 1 from fun w => hx (pn1.mp w)), if_pos (by omega)]
theorem fsh0 {x w : Int} (hf : fshF mu c x w = 0) : (0 ≤ x ∧ x < mu c 2) ∧ (1 ≤ w ∧ w ≤ 1000000) ∧ spF (gL (lay mu (c + 2)) 0 (gL (lay mu (c + 2)) 0 x)) ≠ 0 := by
  unfold fshF at hf
  split at hf
  · rename_i k
    split at hf
    · omega
    · split at hf
      · omega
      · rename_i z; exact ⟨pn1.mp k, by omega, z⟩
  · omega
/-- a pane whose group stands in a split -/
theorem inSplit {L : Mem} (W : Wf L (-1)) {x : Int} (hx : 0 ≤ x ∧ x < 16) (h : spF (gL L 0 (gL L 0 x)) ≠ 0) : gL L 0 x = L 0 x ∧ (16 ≤ L 0 x ∧ L 0 x < 32) ∧ gL L 0 (L 0 x) = L 0 (L 0 x) ∧ 32 ≤ L 0 (L 0 x) ∧ L 0 (L 0 x) < 47 := by
  have e := gL0 (L := L) (i := x) (by omega)
  have pr := W.pan x hx.1 hx.2
  rw [e] at h
  by_cases z : L 0 x = -1
  · exfalso
    have g1 : gL L 0 (L 0 x) = -1 := by rw [z]; unfold gL gK; rw [wr_id (by omega)]; exact if_neg (by omega)
    rw [g1] at h
    exact h rfl
  · have e2 := gL0 (L := L) (i := L 0 x) (by omega)
    rw [e2] at h
    exact ⟨e, by omega, e2, spF_1.mp h⟩
theorem O_share (O : Od c h t p b q r) (A : Inv N mu c h t p b r) (hN : 1000000 ≤ N ∧ N ≤ 10000000) {x w : Int} (hf : fshF mu c x w = 0) {mu1 : Mem} (e1 : mu1 = stlM (putL (pshM mu c h) (c + 2) (sL (lay (pshM mu c h) (c + 2)) 3 (gL (lay (pshM mu c h) (c + 2)) 0 x) w)) p c) :
    gL (lay (pshM mu c h) (c + 2)) 3 (gL (lay (pshM mu c h) (c + 2)) 0 x) = trT mu1 r 3 (trT mu1 r 9 x) ∧ trT mu1 r = trT mu r ∧ mu1 (r + 1) 2 = mu (r + 1) 2 ∧ MWo mu1 r ∧
      Inv (N + 20) (enM (ptT (up (hdM mu1 r) r 19 (trT mu1 r 3 (trT mu1 r 9 x))) r (up (trT mu1 r) 3 (trT mu1 r 9 x) w)) r) c h t p b r ∧ enM (ptT (up (hdM mu1 r) r 19 (trT mu1 r 3 (trT mu1 r 9 x))) r (up (trT mu1 r) 3 (trT mu1 r 9 x) w)) r r 7 = 0 := by
  obtain ⟨e, P, Lr⟩ := A.base
  obtain ⟨f1, f2, f3⟩ := fsh0 hf
  rw [lay_pshM A.1.hy.nxt O.1] at e1 ⊢
  obtain ⟨u, R⟩ := Lr.rl
  obtain ⟨i1, i2, i3, i4⟩ := inSplit R.wf (x := x) (by omega) f3
  have s1 : lay mu (c + 2) 0 x ≠ -1 := by omega
  have us := R.pus (p := x) (by omega) s1
  rw [i1] at e1 ⊢
  rw [sL3 (by omega) (by omega)] at e1
  have pt : trT mu r 9 x = u (lay mu (c + 2) 0 x) := by rw [R.pan x (by omega) (by omega), if_neg s1]
  have l1 := Lr.weigh R us f2 hN.1
  have B : Bd (N + 20) (up (lay mu (c + 2)) 3 (lay mu (c + 2) 0 x) w) := fun k i => by
    have := (A.1.bd (by omega)).1 k i
    rw [up_e]; split <;> omega
  obtain ⟨g1, g2, g3, g4, G, -, -⟩ := A.chg O hN (l1.mono (by omega) (Int.le_refl _)) B e1
  have wt := R.wt _ us i4.1 i4.2
  have vw := Lr.vl.wts _ (by omega) (by omega) i4
  have G := G (trT mu r 3 (trT mu r 9 x)) (by rw [pt, wt]; omega)
  rw [g1, g2, e]
  rw [pt] at G ⊢
  refine ⟨?_, rfl, rfl, g3, G.1, G.2⟩
  rw [gL3 (by omega), wt]
end OPS
