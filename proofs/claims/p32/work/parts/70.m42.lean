/-! EACH CHANGE KEEPS A LAYOUT AND ITS TREE TOGETHER -/
theorem Rl.active {u : Int → Int} {L T : Mem} {kq : Int} (R : Rl u L T (-1) kq) {g v : Int} (hg : Us L (-1) g) (h32 : g < 32) : Rl u (up L 4 (g - 16) v) (up T 4 (u g) v) (-1) kq := by
  obtain ⟨wf, kk, rng, inj, sur, knd, par, pos, wt, act, box, pan, pla⟩ := R
  have us : ∀ x : Int, Us (up L 4 (g - 16) v) (-1) x ↔ Us L (-1) x := fun x => by unfold Us up; simp
  first | with_reducible refine CR.mk ?_ ?_ ?_ ?_ ?_ ?_ | with_reducible refine Hy.mk ?_ ?_ ?_ | with_reducible refine RS.mk ?_ ?_ ?_ ?_ ?_ ?_ ?_ ?_ | with_reducible refine LR.mk ?_ ?_ ?_ ?_ ?_ | with_reducible refine BxI.mk ?_ ?_ ?_ ?_ ?_ ?_ | with_reducible refine WkI.mk ?_ ?_ ?_ ?_ ?_ ?_ | with_reducible refine PlE.mk ?_ ?_ ?_ ?_ ?_ | with_reducible refine Pl0.mk ?_ ?_ ?_ ?_ | with_reducible refine Tp.mk ?_ ?_ | with_reducible refine Vl.mk ?_ ?_ | with_reducible refine Lk.mk ?_ | with_reducible refine RfQ.mk ?_ ?_ ?_ ?_ | with_reducible refine ShQ.mk ?_ ?_ ?_ ?_ | with_reducible refine Que.mk ?_ ?_ ?_ ?_ ?_ ?_ ?_ ?_ | with_reducible refine QuI.mk ?_ ?_ ?_ ?_ ?_ ?_ | with_reducible refine Ord.mk ?_ ?_ ?_ ?_ ?_ ?_ ?_ ?_ ?_ ?_ | with_reducible refine LnI.mk ?_ ?_ ?_ ?_ ?_ ?_ ?_ ?_ ?_ ?_ ?_ ?_ ?_ ?_ ?_ ?_ ?_ | with_reducible refine Rl.mk ?_ ?_ ?_ ?_ ?_ ?_ ?_ ?_ ?_ ?_ ?_ ?_ ?_ | with_reducible refine Wf.mk ?_ ?_ ?_ ?_ ?_ ?_ ?_ ?_ ?_ ?_ ?_ | with_reducible refine Mb.mk ?_ ?_ ?_ ?_ ?_ | constructor
  · obtain ⟨⟨m1, m2, m3, m4, m5⟩, w2, w3, w4, w5, w6, w7, w8, w9, w10, w11⟩ := wf
    first | with_reducible refine CR.mk ?_ ?_ ?_ ?_ ?_ ?_ | with_reducible refine Hy.mk ?_ ?_ ?_ | with_reducible refine RS.mk ?_ ?_ ?_ ?_ ?_ ?_ ?_ ?_ | with_reducible refine LR.mk ?_ ?_ ?_ ?_ ?_ | with_reducible refine BxI.mk ?_ ?_ ?_ ?_ ?_ ?_ | with_reducible refine WkI.mk ?_ ?_ ?_ ?_ ?_ ?_ | with_reducible refine PlE.mk ?_ ?_ ?_ ?_ ?_ | with_reducible refine Pl0.mk ?_ ?_ ?_ ?_ | with_reducible refine Tp.mk ?_ ?_ | with_reducible refine Vl.mk ?_ ?_ | with_reducible refine Lk.mk ?_ | with_reducible refine RfQ.mk ?_ ?_ ?_ ?_ | with_reducible refine ShQ.mk ?_ ?_ ?_ ?_ | with_reducible refine Que.mk ?_ ?_ ?_ ?_ ?_ ?_ ?_ ?_ | with_reducible refine QuI.mk ?_ ?_ ?_ ?_ ?_ ?_ | with_reducible refine Ord.mk ?_ ?_ ?_ ?_ ?_ ?_ ?_ ?_ ?_ ?_ | with_reducible refine LnI.mk ?_ ?_ ?_ ?_ ?_ ?_ ?_ ?_ ?_ ?_ ?_ ?_ ?_ ?_ ?_ ?_ ?_ | with_reducible refine Rl.mk ?_ ?_ ?_ ?_ ?_ ?_ ?_ ?_ ?_ ?_ ?_ ?_ ?_ | with_reducible refine Wf.mk ?_ ?_ ?_ ?_ ?_ ?_ ?_ ?_ ?_ ?_ ?_ | with_reducible refine Mb.mk ?_ ?_ ?_ ?_ ?_ | constructor
    · first | with_reducible refine CR.mk ?_ ?_ ?_ ?_ ?_ ?_ | with_reducible refine Hy.mk ?_ ?_ ?_ | with_reducible refine RS.mk ?_ ?_ ?_ ?_ ?_ ?_ ?_ ?_ | with_reducible refine LR.mk ?_ ?_ ?_ ?_ ?_ | with_reducible refine BxI.mk ?_ ?_ ?_ ?_ ?_ ?_ | with_reducible refine WkI.mk ?_ ?_ ?_ ?_ ?_ ?_ | with_reducible refine PlE.mk ?_ ?_ ?_ ?_ ?_ | with_reducible refine Pl0.mk ?_ ?_ ?_ ?_ | with_reducible refine Tp.mk ?_ ?_ | with_reducible refine Vl.mk ?_ ?_ | with_reducible refine Lk.mk ?_ | with_reducible refine RfQ.mk ?_ ?_ ?_ ?_ | with_reducible refine ShQ.mk ?_ ?_ ?_ ?_ | with_reducible refine Que.mk ?_ ?_ ?_ ?_ ?_ ?_ ?_ ?_ | with_reducible refine QuI.mk ?_ ?_ ?_ ?_ ?_ ?_ | with_reducible refine Ord.mk ?_ ?_ ?_ ?_ ?_ ?_ ?_ ?_ ?_ ?_ | with_reducible refine LnI.mk ?_ ?_ ?_ ?_ ?_ ?_ ?_ ?_ ?_ ?_ ?_ ?_ ?_ ?_ ?_ ?_ ?_ | with_reducible refine Rl.mk ?_ ?_ ?_ ?_ ?_ ?_ ?_ ?_ ?_ ?_ ?_ ?_ ?_ | with_reducible refine Wf.mk ?_ ?_ ?_ ?_ ?_ ?_ ?_ ?_ ?_ ?_ ?_ | with_reducible refine Mb.mk ?_ ?_ ?_ ?_ ?_ | constructor
      all_goals simpa [up]
    all_goals simpa [up]
  · exact kk
  · intro x hx; exact rng x ((us x).mp hx)
  · intro x y hx hy; exact inj x y ((us x).mp hx) ((us y).mp hy)
  · intro o h1 h2 h3
    obtain ⟨x, x1, x2⟩ := sur o h1 h2 (by simpa [up] using h3)
    exact ⟨x, (us x).mpr x1, x2⟩
  · intro x hx; simpa [up, kindL] using knd x ((us x).mp hx)
  · intro x hx; simpa [up] using par x ((us x).mp hx)
  · intro x hx; simpa [up] using pos x ((us x).mp hx)
  · intro x hx; simpa [up] using wt x ((us x).mp hx)
  · intro x hx h
    have hx := (us x).mp hx
    have a := act x hx h
    have b := inj x g hx hg
    show (if (4 : Nat) = 4 ∧ u x = u g then v else T 4 (u x)) = (if (4 : Nat) = 4 ∧ x - 16 = g - 16 then v else L 4 (x - 16))
    by_cases e : x = g
    · subst e; simp
    · have : u x ≠ u g := fun z => e (b z)
      rw [if_neg (by simp [this]), if_neg (by simp; omega)]
      exact a
  · intro x hx; simpa [up] using box x ((us x).mp hx)
  · simpa [up] using pan
  · simpa [up] using pla
theorem egC_TB {N : Int} {T : Mem} (h : TB N T) (hN : 100 ≤ N) {P : Int} (hP : 0 ≤ P ∧ P ≤ 16) {p s : Int} (hp : 0 ≤ p ∧ p < 16) (ho : okE T P p s) : TB (N + 3) (egC T P p s) := by
  have h1 := tkT_TB h hN hP hp
  obtain ⟨-, o1, o2, o3⟩ := ho
  have h2 : TB (N + 2) (dk2 T P p) := nwT_TB h1 (by omega) o1 hp (by omega)
  have rb := rtT_b (tkT T P p)
  unfold egC
  split
  · rename_i z
    have kb := kdT_b (dk2 T P p) (rtT (tkT T P p))
    have c0 := o2 z
    have cb := chT_b (dk2 T P p) (rtT (tkT T P p)) (if ah2 s = 0 then kdT (dk2 T P p) (rtT (tkT T P p)) - 1 else 0)
    have := h2.n 3 (by omega) ⟨c0, cb.2⟩
    exact (ciT_TB h2 (by omega) ⟨by have := z.1; omega, rb.2⟩ (by split <;> omega) this).mono (by omega)
  · rename_i z
    split
    · rename_i y
      have f := o3 z y
      have kn : 0 ≤ knF s ∧ knF s ≤ 4 := by unfold knF; split <;> omega
      exact (prT_TB h2 (by omega) f ⟨by omega, rb.2⟩ kn).mono (by omega)
    · exact h2.mono (by omega)
theorem flT_TB {N : Int} {T : Mem} (h : TB N T) (hN : 1000 ≤ N) {P : Int} (hP : 0 ≤ P ∧ P ≤ 16) {p x y w v : Int} (hp : 0 ≤ p ∧ p < 16) (ho : okF T P p) (hx : 0 ≤ x ∧ x ≤ 400) (hy : 0 ≤ y ∧ y ≤ 400) (hw : 0 ≤ w ∧ w ≤ 400) (hv : 0 ≤ v ∧ v ≤ 400) : TB (N + 3) (flT T P p x y w v) := by
  have h1 := tkT_TB h (by omega) hP hp
  have h2 : TB (N + 2) (nwT (tkT T P p) p 4) := nwT_TB h1 (by omega) ho.2 hp (by omega)
  have cb := ctT_b (tkT T P p) 4
  unfold flT
  exact (((((h2.upd _ _ (by omega) (by omega) (by omega)).upd _ _ (by omega) (by omega) (by omega)).upd _ _ (by omega) (by omega) (by omega)).upd _ _ (by omega) (by omega) (by omega)).upd _ _ (by omega) (by omega) (by omega)).mono (by omega)
theorem rzT_TB {N : Int} {T : Mem} (h : TB N T) (hN : 100 ≤ N) (g : Int) : TB (N + 1) (rzT T g) := by
  unfold rzT
  have cb := ctT_b (rzP T (T 2 g) 32) 4
  exact (rzP_TB h _ _).upd _ _ (by omega) (by omega) (by omega)
theorem mvT_TB {N : Int} {T : Mem} (h : TB N T) (hN : 100 ≤ N) {P p y : Int} (hP : P ≤ 16) (hy : 0 ≤ y ∧ y ≤ 16) : TB (N + 1) (mvT T P p y) := by
  have a : TB (N + 1) (mvP T (T 9 p) p (T 10 p) y P) := by
    have h' := h.mono (show N ≤ N + 1 by omega)
    refine ⟨fun w i hi => ?_, fun i hi => ?_, fun i hi => ?_⟩
    · unfold mvP
      split
      · rename_i z
        obtain ⟨rfl, z1, z2, -, -⟩ := z
        have := h.q 10 (by omega) (i := i) (by omega)
        unfold mvI
        (repeat' split) <;> omega
      · exact h'.1 w i hi
    · rw [mvP_k _ _ _ _ _ _ _ (by omega)]; exact h.2.1 i hi
    · rw [mvP_k _ _ _ _ _ _ _ (by omega)]; exact h.2.2 i hi
  unfold mvT
  exact a.upd _ _ (by omega) (by omega) (by omega)
theorem LR.take {N : Int} {L T : Mem} {P p : Int} (A : LR N L T P) (hp : 0 ≤ p ∧ p < P) (hP : P ≤ 16) (hN : 100 ≤ N) : LR (N + 3) (tkF L p) (tkT T P p) P ∧ okT T P p := by
  obtain ⟨⟨u, R⟩, F, C, V, B⟩ := A
  obtain ⟨R1, F1, k1, ok1, h48⟩ := R.take F hp hP C
  refine ⟨LR.mk ⟨u, R1⟩ F1 (fun y h1 h2 => ?_) ?_ ((tkT_TB B hN ⟨by omega, hP⟩ ⟨hp.1, by omega⟩).mono (by omega)), ok1⟩
  · rw [k1 y (by omega) h2]
    have := C y h1 h2
    split
    · rfl
    · exact this
  · exact V.of (V.w.take p) (K67.take p) fun x h1 h2 h => (h48 x h1 (by omega) (by omega)).mp h
theorem LR.dock {N : Int} {L T : Mem} {P p t s : Int} (A : LR N L T P) (hp : 0 ≤ p ∧ p < P) (ht : 0 ≤ t ∧ t < P) (hpt : p ≠ t) (hs : 0 ≤ s ∧ s ≤ 4) (hP : P ≤ 16) (hst : sttF L t = 1 ∨ (sttF L t = 2 ∧ s = 4)) (hN : 100 ≤ N) :
    LR (N + 3) (dkF L p t s) (dkT T P p t s) P ∧ okD T P p t s ∧ dkF L p t s 2 (dkF L p t s 0 p) = dkA T P p t s := by
  obtain ⟨⟨u, R⟩, F, C, V, B⟩ := A
  obtain ⟨u', R1, F1, C1, ok, an⟩ := R.dock F hp ht hpt hs hP C hst
  obtain ⟨R2, F2, k2, ok2, h48⟩ := R.take F hp hP C
  refine ⟨LR.mk ⟨u', R1⟩ F1 C1 ?_ (dkT_TB B hN ⟨by omega, hP⟩ ⟨hp.1, by omega⟩ ⟨ht.1, by omega⟩ ok), ok, an⟩
  refine V.of (V.w.dock p t s fun _ z => ?_) (K67.dock p t s) (F48.tr (fun x h1 h2 h => (h48 x h1 (by omega) (by omega)).mp h) (F48.dock t s (by omega)))
  rw [aL_0 ⟨ht.1, by omega⟩] at z
  have := R2.wf.pan t ht.1 (by omega)
  unfold isZ at z; omega
theorem LR.edge {N : Int} {L T : Mem} {P p s : Int} (A : LR N L T P) (hp : 0 ≤ p ∧ p < P) (hs : 0 ≤ s ∧ s ≤ 3) (hP : P ≤ 16) (hN : 100 ≤ N) : LR (N + 3) (dwF L p s) (egC T P p s) P ∧ okE T P p s := by
  obtain ⟨⟨u, R⟩, F, C, V, B⟩ := A
  obtain ⟨u', R1, F1, C1, ok⟩ := R.edge F hp hs hP C
  obtain ⟨R2, F2, k2, ok2, h48⟩ := R.take F hp hP C
  refine ⟨LR.mk ⟨u', R1⟩ F1 C1 ?_ (egC_TB B hN ⟨by omega, hP⟩ ⟨hp.1, by omega⟩ ok), ok⟩
  exact V.of (V.w.edge p s) (K67.edge p s) (F48.tr (fun x h1 h2 h => (h48 x h1 (by omega) (by omega)).mp h) (F48.edge s (by omega)))
theorem flF_r67 {L : Mem} {p x y w v g : Int} (hg : unuF (tkF L p) 16 32 = g) (h : 16 ≤ g ∧ g < 32) (o : Int) : flF L p x y w v 6 o = (if o = 2 * (g - 16) + 1 then y else if o = 2 * (g - 16) + 0 then x else L 6 o) ∧ flF L p x y w v 7 o = (if o = 2 * (g - 16) + 1 then v else if o = 2 * (g - 16) + 0 then w else L 7 o) := by
  have k := (K67.take (L := L) p).tr ((K67.grp p).tr (K67.ins g 48 (aL (grpF (tkF L p) p) 2 48)))
  unfold flF
  rw [hg]
  have l6 : (llen 6 : Int) = 32 := rfl
  have l7 : (llen 7 : Int) = 32 := rfl
  refine ⟨?_, ?_⟩
  · rw [pL_row (by omega), pL_row (by omega), pL_at, pL_at, l6, k 6 (Or.inl rfl)]
    by_cases a : o = 2 * (g - 16) + 1
    · rw [if_pos ⟨by omega, a⟩, if_pos a]
    · rw [if_neg (by omega), if_neg a]
      by_cases b : o = 2 * (g - 16) + 0
      · rw [if_pos ⟨by omega, b⟩, if_pos b]
      · rw [if_neg (by omega), if_neg b]
  · rw [pL_at, pL_at, l7, pL_row (by omega), pL_row (by omega), k 7 (Or.inr rfl)]
    by_cases a : o = 2 * (g - 16) + 1
    · rw [if_pos ⟨by omega, a⟩, if_pos a]
    · rw [if_neg (by omega), if_neg a]
      by_cases b : o = 2 * (g - 16) + 0
      · rw [if_pos ⟨by omega, b⟩, if_pos b]
      · rw [if_neg (by omega), if_neg b]
theorem LR.float {N : Int} {L T : Mem} {P p x y w v : Int} (A : LR N L T P) (hp : 0 ≤ p ∧ p < P) (hP : P ≤ 16) (hN : 1000 ≤ N) (hx : 0 ≤ x ∧ x ≤ 399) (hy : 0 ≤ y ∧ y ≤ 399) (hw : 1 ≤ w ∧ w ≤ 400) (hv : 1 ≤ v ∧ v ≤ 400) :
    LR (N + 3) (flF L p x y w v) (flT T P p x y w v) P ∧ okF T P p ∧ flF L p x y w v 2 48 = ctT (tkT T P p) 4 + 1 := by
  obtain ⟨⟨u, R⟩, F, C, V, B⟩ := A
  obtain ⟨u', R1, F1, C1, ok, an⟩ := R.float F (x := x) (y := y) (w := w) (h := v) hp hP C
  obtain ⟨R2, F2, k2, ok2, h48⟩ := R.take F hp hP C
  refine ⟨LR.mk ⟨u', R1⟩ F1 C1 ?_ (flT_TB B hN ⟨by omega, hP⟩ ⟨hp.1, by omega⟩ ok (by omega) (by omega) (by omega) (by omega)), ok, an⟩
  have gr := (R2.wf.freeG F2 (p := p) ⟨hp.1, by omega⟩ (by rw [k2 p hp.1 (by omega), if_pos rfl])).1
  have r0 : ∀ o : Int, flF L p x y w v 0 o = if (0 ≤ unuF (tkF L p) 16 32 ∧ unuF (tkF L p) 16 32 < 49) ∧ o = unuF (tkF L p) 16 32 then 48 else if (0 ≤ p ∧ p < 49) ∧ o = p then unuF (tkF L p) 16 32 else tkF L p 0 o := fun o => by
    unfold flF
    rw [pL_row (by omega), pL_row (by omega), pL_row (by omega), pL_row (by omega), insF_r0, grpF_r0]
  have r3 : flF L p x y w v 3 = tkF L p 3 := by
    unfold flF
    rw [pL_row (by omega), pL_row (by omega), pL_row (by omega), pL_row (by omega), insF_row (by omega) (by omega) (by omega), grpF_row (by omega) (by omega) (by omega) (by omega)]
  refine Vl.mk (fun t h1 h2 z => ?_) (fun g h1 h2 h ax ha => ?_)
  · rw [r3]
    rw [r0] at z
    split at z
    · unfold isZ at z; omega
    · split at z
      · unfold isZ at z; omega
      · exact V.w.take p t h1 h2 (fun h => h) z
  · rw [r0] at h
    have old : tkF L p 0 g = 48 → L 0 g = 48 := fun e => (h48 g h1 (by omega) (by omega)).mp e
    have gp : g ≠ p := by omega
    by_cases e : g = unuF (tkF L p) 16 32
    · have q := flF_r67 (L := L) (p := p) (x := x) (y := y) (w := w) (v := v) e.symm ⟨h1, h2⟩ (2 * (g - 16) + ax)
      rw [q.1, q.2]
      rcases ha with rfl | rfl
      · rw [if_neg (show ¬ (2 * (g - 16) + 0 = 2 * (g - 16) + 1) by omega), if_neg (show ¬ (2 * (g - 16) + 0 = 2 * (g - 16) + 1) by omega), if_pos rfl, if_pos rfl]; omega
      · rw [if_pos rfl, if_pos rfl]; omega
    · rw [if_neg (by omega), if_neg (by omega)] at h
      have vo := V.flo g h1 h2 (old h) ax ha
      have q := flF_r67 (L := L) (p := p) (x := x) (y := y) (w := w) (v := v) rfl gr (2 * (g - 16) + ax)
      rw [q.1, q.2, if_neg (by omega), if_neg (by omega), if_neg (by omega), if_neg (by omega)]
      exact vo
theorem LR.raise {N : Int} {L T : Mem} {P g : Int} {u : Int → Int} (A : LR N L T P) (R : Rl u L T (-1) 1) (hg : Us L (-1) g) (h : L 0 g = 48) (hN : 100 ≤ N) : LR (N + 3) (raF L g) (rzT T (u g)) P := by
  obtain ⟨-, F, C, V, B⟩ := A
  obtain ⟨e0, e1, e2, ek, MB⟩ := raF_rows R.wf hg.1 h
  refine LR.mk ⟨u, R.raise hg h⟩ (fun x h1 h2 => ?_) (fun x h1 h2 => ?_) ?_ ((rzT_TB B hN _).mono (by omega))
  · rw [e0, e2]; exact F x h1 h2
  · rw [e0]; exact C x h1 h2
  · refine Vl.mk (fun t h1 h2 z => ?_) (fun x h1 h2 z => ?_)
    · rw [e0] at z; rw [ek _ _ (by omega)]; exact V.wts t h1 h2 z
    · rw [e0] at z
      intro ax ha
      rw [ek _ _ (by omega), ek _ _ (by omega)]
      exact V.flo x h1 h2 z ax ha
theorem LR.move {N : Int} {L T : Mem} {P p i : Int} (A : LR N L T P) (hp : 0 ≤ p ∧ p < P) (hP : P ≤ 16) (h : L 0 p ≠ -1) (hi : 0 ≤ i ∧ i < L 2 (L 0 p)) (hN : 100 ≤ N) : LR (N + 3) (mvF L p i) (mvT T P p i) P := by
  obtain ⟨⟨u, R⟩, F, C, V, B⟩ := A
  obtain ⟨e0, e1, e2, ek, MB⟩ := mvF_rows R.wf ⟨hp.1, by omega⟩ h hi
  have p1 := R.wf.pan p hp.1 (by omega)
  have c16 := R.wf.cnt16 F (h := L 0 p) ⟨by omega, by omega⟩
  refine LR.mk ⟨u, R.move hp hP C h hi⟩ (fun x h1 h2 => ?_) (fun x h1 h2 => ?_) ?_ ((mvT_TB B hN hP ⟨hi.1, by omega⟩).mono (by omega))
  · rw [e0, e2]; exact F x h1 h2
  · rw [e0]; exact C x h1 h2
  · refine Vl.mk (fun t h1 h2 z => ?_) (fun x h1 h2 z => ?_)
    · rw [e0] at z; rw [ek _ _ (by omega)]; exact V.wts t h1 h2 z
    · rw [e0] at z
      intro ax ha
      rw [ek _ _ (by omega), ek _ _ (by omega)]
      exact V.flo x h1 h2 z ax ha
theorem LR.weigh {N : Int} {L T : Mem} {P g v : Int} {u : Int → Int} (A : LR N L T P) (R : Rl u L T (-1) 1) (hg : Us L (-1) g) (hv : 1 ≤ v ∧ v ≤ 1000000) (hN : 1000000 ≤ N) : LR N (up L 3 g v) (up T 3 (u g) v) P := by
  obtain ⟨-, F, C, V, B⟩ := A
  have e : ∀ (k : Nat) (o : Int), k ≠ 3 → up L 3 g v k o = L k o := fun k o hk => up_a _ _ _ _ hk
  refine LR.mk ⟨u, R.weigh hg⟩ (fun x h1 h2 => ?_) (fun x h1 h2 => ?_) ?_ (B.upd _ _ (by omega) (by omega) (by omega))
  · rw [e _ _ (by omega), e _ _ (by omega)]; exact F x h1 h2
  · rw [e _ _ (by omega)]; exact C x h1 h2
  · refine Vl.mk (fun t h1 h2 z => ?_) (fun x h1 h2 z => ?_)
    · rw [e _ _ (by omega)] at z
      rw [up_e]
      split
      · exact hv
      · exact V.wts t h1 h2 z
    · rw [e _ _ (by omega)] at z
      intro ax ha
      rw [e _ _ (by omega), e _ _ (by omega)]
      exact V.flo x h1 h2 z ax ha
theorem LR.active {N : Int} {L T : Mem} {P g v : Int} {u : Int → Int} (A : LR N L T P) (R : Rl u L T (-1) 1) (hg : Us L (-1) g) (h32 : g < 32) (hv : -N ≤ v ∧ v ≤ N) : LR N (up L 4 (g - 16) v) (up T 4 (u g) v) P := by
  obtain ⟨-, F, C, V, B⟩ := A
  have e : ∀ (k : Nat) (o : Int), k ≠ 4 → up L 4 (g - 16) v k o = L k o := fun k o hk => up_a _ _ _ _ hk
  refine LR.mk ⟨u, R.active hg h32⟩ (fun x h1 h2 => ?_) (fun x h1 h2 => ?_) ?_ (B.upd _ _ (by omega) (by omega) (by omega))
  · rw [e _ _ (by omega), e _ _ (by omega)]; exact F x h1 h2
  · rw [e _ _ (by omega)]; exact C x h1 h2
  · refine Vl.mk (fun t h1 h2 z => ?_) (fun x h1 h2 z => ?_)
    · rw [e _ _ (by omega)] at z
      rw [e _ _ (by omega)]
      exact V.wts t h1 h2 z
    · rw [e _ _ (by omega)] at z
      intro ax ha
      rw [e _ _ (by omega), e _ _ (by omega)]
      exact V.flo x h1 h2 z ax ha
