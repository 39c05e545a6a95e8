/-! a tab comes in; a group is raised; a tab is moved; weights -/
section RL
variable {u : Int → Int} {L T : Mem} {q kq : Int}
theorem Rl.insP (R : Rl u L T (-1) kq) {p g : Int} (hp : 0 ≤ p ∧ p < 16) (h : L 0 p = -1) (hg : Us L (-1) g) (h32 : g < 32) : Rl u (insF L p g (L 2 g)) (up (up T 9 p (u g)) 10 p (L 2 g)) (-1) kq := by
  have b := hg.1
  have hp' : 0 ≤ p ∧ p < 49 := by omega
  have hg' : 16 ≤ g ∧ g < 49 := by omega
  have g0 : L 0 g ≠ -1 := by have := hg.2; omega
  have nn := R.wf.mb.nng g hg'.1 hg'.2
  have e0 := fun o => insF_0 (L := L) (i := L 2 g) hp' hg' o
  have e1 : ∀ o : Int, 0 ≤ o → o < 49 → insF L p g (L 2 g) 1 o = if o = p then L 2 g else L 1 o := fun o o1 o2 => by
    rw [insF_1 hp' hg']
    have := R.wf.mb.rng o o1 o2
    grind
  have e2 := fun o => insF_2 (L := L) (i := L 2 g) hp' hg' o
  have ek := fun (k : Nat) (o : Int) (hk : 3 ≤ k) => insF_k (L := L) (i := L 2 g) hk hp' hg' o
  have us : ∀ x : Int, Us (insF L p g (L 2 g)) (-1) x ↔ Us L (-1) x := by
    intro x; unfold Us; rw [e0]; grind
  have tl : ∀ (k : Nat) (o : Int), k < 9 → up (up T 9 p (u g)) 10 p (L 2 g) k o = T k o := fun k o hk => by
    rw [up_e, up_e, if_neg (by omega), if_neg (by omega)]
  first | with_reducible refine Rl.mk ?_ ?_ ?_ ?_ ?_ ?_ ?_ ?_ ?_ ?_ ?_ ?_ ?_ | with_reducible refine Wf.mk ?_ ?_ ?_ ?_ ?_ ?_ ?_ ?_ ?_ ?_ ?_ | with_reducible refine Mb.mk ?_ ?_ ?_ ?_ ?_ | constructor
  · first | with_reducible refine Rl.mk ?_ ?_ ?_ ?_ ?_ ?_ ?_ ?_ ?_ ?_ ?_ ?_ ?_ | with_reducible refine Wf.mk ?_ ?_ ?_ ?_ ?_ ?_ ?_ ?_ ?_ ?_ ?_ | with_reducible refine Mb.mk ?_ ?_ ?_ ?_ ?_ | constructor
    · exact R.wf.mb.ins hp' hg' h ⟨nn, Int.le_refl _⟩
    · intro x h1 h3; rw [e0]; have := R.wf.pan x h1 h3; grind
    · intro x h1 h3; rw [e0, if_neg (show x ≠ p by omega)]; exact R.wf.grp x h1 h3
    · intro x h1 h3; rw [e0, if_neg (show x ≠ p by omega)]; exact R.wf.spl x h1 h3
    · intro x h1 h3 h4 h5
      have ex := e0 x
      have a := R.wf.own x h1 h3
      left
      by_cases hx : x = p
      · rw [if_pos hx] at ex
        rw [ex, e0, if_neg (by omega)]
        exact g0
      · rw [if_neg hx] at ex
        rw [ex] at h4 h5 ⊢
        have := a h4 h5
        rw [e0]
        split <;> omega
    · rw [e0, if_neg (by omega)]; exact R.wf.tw
    · rw [e0, if_neg (by omega)]; exact R.wf.ts
    · rw [e2, if_neg (by omega)]; exact R.wf.win
    · intro x h1 h3; rw [ek 5 _ (by omega)]; exact R.wf.axs x h1 h3
    · exact Or.inl rfl
    · obtain ⟨r, hr⟩ := R.wf.rank
      refine ⟨r, fun x h1 h3 => ?_⟩
      rw [e0, if_neg (show x ≠ p by omega)]
      exact hr x h1 h3
  · exact R.kk
  · intro x hx; exact R.rng x ((us x).mp hx)
  · intro x y hx hy; exact R.inj x y ((us x).mp hx) ((us y).mp hy)
  · intro o h1 h3 h4
    rw [tl 0 _ (by omega)] at h4
    obtain ⟨x, x1, x2⟩ := R.sur o h1 h3 h4
    exact ⟨x, (us x).mpr x1, x2⟩
  · intro x hx
    have hx := (us x).mp hx
    have b := hx.1
    rw [tl 0 _ (by omega), R.knd x hx]
    unfold kindL
    rw [e0, ek 5 _ (by omega), if_neg (show x ≠ p by omega)]
  · intro x hx
    have hx := (us x).mp hx
    have b := hx.1
    rw [tl 1 _ (by omega), e0, if_neg (show x ≠ p by omega)]
    exact R.par x hx
  · intro x hx hq
    have hx := (us x).mp hx
    have b := hx.1
    rw [tl 2 _ (by omega), e1 x (by omega) (by omega), if_neg (show x ≠ p by omega)]
    exact R.pos x hx hq
  · intro x hx
    have hx := (us x).mp hx
    have b := hx.1
    rw [tl 3 _ (by omega), ek 3 _ (by omega), e0, if_neg (show x ≠ p by omega)]
    exact R.wt x hx
  · intro x hx h3
    have hx := (us x).mp hx
    rw [tl 4 _ (by omega), ek 4 _ (by omega)]
    exact R.act x hx h3
  · intro x hx
    have hx := (us x).mp hx
    have b := hx.1
    rw [e0, if_neg (show x ≠ p by omega), tl 5 _ (by omega), tl 6 _ (by omega), tl 7 _ (by omega), tl 8 _ (by omega), ek 6 _ (by omega), ek 6 _ (by omega), ek 7 _ (by omega), ek 7 _ (by omega)]
    exact R.box x hx
  · intro x h1 h3
    have := R.pan x h1 h3
    rw [up_e, up_e, e0]
    grind
  · intro x h1 h3 h4
    rw [e0] at h4
    have := R.pla x h1 h3
    rw [up_e, up_e, e1 x h1 (by omega)]
    grind
/-- how many groups float -/
theorem Rl.floats (R : Rl u L T (-1) kq) : ctT T 4 = L 2 48 := by
  have key : ∀ g : Int, Us L (-1) g → (ind T 0 4 (u g) = 1 ↔ L 0 g = 48) := by
    intro g hg
    have kg := R.knd g hg
    have b := hg.1
    have a1 := R.wf.spl g
    have a2 := R.wf.axs g
    have : L 0 g ≠ -1 := by have := hg.2; omega
    unfold ind
    unfold kindL at kg
    grind
  have nz : ∀ o : Int, ind T 0 4 o = 1 → T 0 o ≠ 0 := fun o h => by unfold ind at h; grind
  unfold ctT
  refine smG_card _ _ (fun o => T 2 o) _ (R.wf.mb.nng 48 (by omega) (by omega)) (fun o h1 h2 => by unfold ind; split <;> simp) (fun o h1 h2 h3 => ?_) (fun o v h1 h2 h3 h4 h5 h6 h7 => ?_) (fun i h1 h2 => ?_)
  · obtain ⟨g, g1, rfl⟩ := R.sur o h1 (by omega) (nz _ h3)
    have e := (key g g1).mp h3
    have r := R.wf.mb.rng g (by have := g1.1; omega) (by have := g1.1; omega) (by omega)
    have p := R.pos g g1 (by have := g1.1; omega)
    grind
  · obtain ⟨g, g1, rfl⟩ := R.sur o h1 (by omega) (nz _ h5)
    obtain ⟨k, k1, rfl⟩ := R.sur v h3 (by omega) (nz _ h6)
    have e := (key g g1).mp h5
    have e2 := (key k k1).mp h6
    have p := R.pos g g1 (by have := g1.1; omega)
    have p2 := R.pos k k1 (by have := k1.1; omega)
    have h8 : T 2 (u g) = T 2 (u k) := h7
    have b1 := g1.1
    have b2 := k1.1
    rw [R.wf.mb.inj g k (by omega) (by omega) (by omega) (by omega) (by omega) (by omega) (by omega)]
  · obtain ⟨t, t1, t2, t3, t4⟩ := R.wf.mb.sur 48 i (by omega) (by omega) h1 h2
    have ut := R.wf.usd ⟨t1, t2⟩ (by omega)
    have r := R.rng t ut
    exact ⟨u t, r.1, by omega, (key t ut).mpr t3, by rw [R.pos t ut (by have := ut.1; omega)]; exact t4⟩
theorem rzT_k {T : Mem} {g : Int} {w : Nat} (hw : w ≠ 2) (o : Int) : rzT T g w o = T w o := by simp [rzT, rzP, up_e, hw]
theorem rzT_2 {T : Mem} {g : Int} (o : Int) : rzT T g 2 o = if o = g then ctT T 4 - 1 else if (0 ≤ o ∧ o < 32) ∧ T 0 o = 4 ∧ T 2 g < T 2 o then T 2 o - 1 else T 2 o := by
  have e : ctT (rzP T (T 2 g) 32) 4 = ctT T 4 := by
    unfold ctT
    exact smG_ext 32 (fun o _ _ => by unfold ind rzP; simp)
  simp [rzT, rzP, up_e, e, and_assoc]
theorem raF_rows (W : Wf L (-1)) {g : Int} (hg : 16 ≤ g ∧ g < 47) (h : L 0 g = 48) : (∀ o : Int, raF L g 0 o = L 0 o) ∧ (∀ o : Int, 0 ≤ o → o < 49 → raF L g 1 o = if o = g then L 2 48 - 1 else if L 0 o = 48 ∧ L 1 g < L 1 o then L 1 o - 1 else L 1 o) ∧
    (∀ o : Int, raF L g 2 o = L 2 o) ∧ (∀ (k : Nat) (o : Int), 3 ≤ k → raF L g k o = L k o) ∧ Mb (raF L g) := by
  have hg' : 0 ≤ g ∧ g < 49 := by omega
  have hh : 16 ≤ L 0 g ∧ L 0 g < 49 := by omega
  have f0 := fun o => remF_0 (L := L) hg' hh o
  have f1 := fun o => remF_1 (L := L) hg' hh o
  have f2 := fun o => remF_2 (L := L) hg' hh o
  have rg := W.mb.rng g (by omega) (by omega) (by omega)
  rw [h] at rg f1 f2
  unfold raF
  rw [aL_2 ⟨by omega, by omega⟩]
  have h48 : (16 : Int) ≤ 48 ∧ (48 : Int) < 49 := by omega
  have mr := W.mb.rem hg' (by omega)
  refine ⟨fun o => ?_, fun o o1 o2 => ?_, fun o => ?_, fun k o hk => ?_, ?_⟩
  · rw [insF_0 hg' h48, f0]; grind
  · have ro := W.mb.rng o o1 o2
    have io := W.mb.inj o g o1 o2 (by omega) (by omega)
    rw [insF_1 hg' h48, f2, f1, f0]; grind
  · rw [insF_2 hg' h48, f2, f2]; grind
  · rw [insF_k hk hg' h48, remF_k hk hg' hh]
  · refine mr.ins hg' h48 (by rw [f0, if_pos rfl]) ⟨?_, Int.le_refl _⟩
    rw [f2, if_pos rfl]; omega
theorem Rl.raise (R : Rl u L T (-1) kq) {g : Int} (hg : Us L (-1) g) (h : L 0 g = 48) : Rl u (raF L g) (rzT T (u g)) (-1) kq := by
  obtain ⟨e0, e1, e2, ek, MB⟩ := raF_rows R.wf hg.1 h
  have b := hg.1
  have us : ∀ x : Int, Us (raF L g) (-1) x ↔ Us L (-1) x := by intro x; unfold Us; rw [e0]
  have fl := R.floats
  have key : ∀ x : Int, Us L (-1) x → (T 0 (u x) = 4 ↔ L 0 x = 48) := by
    intro x hx
    have kg := R.knd x hx
    have b := hx.1
    have a1 := R.wf.spl x
    have a2 := R.wf.axs x
    have : L 0 x ≠ -1 := by have := hx.2; omega
    unfold kindL at kg
    grind
  obtain ⟨⟨mb, wpan, wgrp, wspl, wown, wtw, wts, wwin, waxs, wloo, wrank⟩, kk, rng, inj, sur, knd, par, pos, wt, act, box, pan, pla⟩ := R
  first | with_reducible refine Rl.mk ?_ ?_ ?_ ?_ ?_ ?_ ?_ ?_ ?_ ?_ ?_ ?_ ?_ | with_reducible refine Wf.mk ?_ ?_ ?_ ?_ ?_ ?_ ?_ ?_ ?_ ?_ ?_ | with_reducible refine Mb.mk ?_ ?_ ?_ ?_ ?_ | constructor
  · first | with_reducible refine Rl.mk ?_ ?_ ?_ ?_ ?_ ?_ ?_ ?_ ?_ ?_ ?_ ?_ ?_ | with_reducible refine Wf.mk ?_ ?_ ?_ ?_ ?_ ?_ ?_ ?_ ?_ ?_ ?_ | with_reducible refine Mb.mk ?_ ?_ ?_ ?_ ?_ | constructor
    · exact MB
    all_goals first | exact Or.inl rfl | simpa only [e0, e2, ek 5 _ (show 3 ≤ 5 by omega)]
  · exact kk
  · intro x hx; exact rng x ((us x).mp hx)
  · intro x y hx hy; exact inj x y ((us x).mp hx) ((us y).mp hy)
  · intro o h1 h3 h4
    rw [rzT_k (by omega)] at h4
    obtain ⟨x, x1, x2⟩ := sur o h1 h3 h4
    exact ⟨x, (us x).mpr x1, x2⟩
  · intro x hx
    rw [rzT_k (by omega), knd x ((us x).mp hx)]
    unfold kindL
    rw [e0, ek 5 _ (by omega)]
  · intro x hx
    rw [rzT_k (by omega), e0]
    exact par x ((us x).mp hx)
  · intro x hx hq
    have hx := (us x).mp hx
    have bx := hx.1
    rw [rzT_2, e1 x (by omega) (by omega)]
    by_cases z : x = g
    · rw [if_pos z, if_pos (by rw [z]), fl]
    · have n : u x ≠ u g := fun e => z (inj x g hx hg e)
      have r := rng x hx
      have k := key x hx
      rw [if_neg n, if_neg z, pos x hx hq, pos g hg (by omega)]
      clear e0 e1 e2 ek us key MB mb wpan wgrp wspl wown wrank rng inj sur knd par pos wt act box pan pla
      grind
  · intro x hx
    rw [rzT_k (by omega), e0, ek 3 _ (by omega)]
    exact wt x ((us x).mp hx)
  · intro x hx
    rw [rzT_k (by omega), ek 4 _ (by omega)]
    exact act x ((us x).mp hx)
  · intro x hx
    rw [rzT_k (by omega), rzT_k (by omega), rzT_k (by omega), rzT_k (by omega), e0, ek 6 _ (by omega), ek 6 _ (by omega), ek 7 _ (by omega), ek 7 _ (by omega)]
    exact box x ((us x).mp hx)
  · intro x h1 h3
    rw [rzT_k (by omega), e0]
    exact pan x h1 h3
  · intro x h1 h3 h4
    rw [e0] at h4
    have := wpan x h1 h3
    rw [rzT_k (by omega), e1 x h1 (by omega), if_neg (show x ≠ g by omega), if_neg (by omega)]
    exact pla x h1 h3 h4
theorem mvT_k {T : Mem} {P p y : Int} {w : Nat} (hw : w ≠ 10) (o : Int) : mvT T P p y w o = T w o := by simp [mvT, mvP, up_e, hw]
theorem mvT_10 {T : Mem} {P p y : Int} (o : Int) : mvT T P p y 10 o = if o = p then y else if (0 ≤ o ∧ o < P) ∧ T 9 o = T 9 p then mvI T (T 10 p) y o else T 10 o := by
  by_cases e : o = p
  · simp [mvT, mvP, up_e, e]
  · simp [mvT, mvP, up_e, e, and_assoc]
theorem mvF_rows (W : Wf L (-1)) {p i : Int} (hp : 0 ≤ p ∧ p < 16) (h : L 0 p ≠ -1) (hi : 0 ≤ i ∧ i < L 2 (L 0 p)) : (∀ o : Int, mvF L p i 0 o = L 0 o) ∧
    (∀ o : Int, 0 ≤ o → o < 49 → mvF L p i 1 o = if o = p then i else if L 0 o = L 0 p then (if (if L 1 p < L 1 o then L 1 o - 1 else L 1 o) < i then (if L 1 p < L 1 o then L 1 o - 1 else L 1 o) else (if L 1 p < L 1 o then L 1 o - 1 else L 1 o) + 1) else L 1 o) ∧
    (∀ o : Int, mvF L p i 2 o = L 2 o) ∧ (∀ (k : Nat) (o : Int), 3 ≤ k → mvF L p i k o = L k o) ∧ Mb (mvF L p i) := by
  have hg' : 0 ≤ p ∧ p < 49 := by omega
  have hh : 16 ≤ L 0 p ∧ L 0 p < 49 := by have := W.pan p hp.1 hp.2; omega
  have f0 := fun o => remF_0 (L := L) hg' hh o
  have f1 := fun o => remF_1 (L := L) hg' hh o
  have f2 := fun o => remF_2 (L := L) hg' hh o
  unfold mvF
  rw [aL_0 hg']
  have mr := W.mb.rem hg' (by omega)
  refine ⟨fun o => ?_, fun o o1 o2 => ?_, fun o => ?_, fun k o hk => ?_, ?_⟩
  · rw [insF_0 hg' hh, f0]; grind
  · rw [insF_1 hg' hh, f1, f0]; grind
  · rw [insF_2 hg' hh, f2, f2]; grind
  · rw [insF_k hk hg' hh, remF_k hk hg' hh]
  · refine mr.ins hg' hh (by rw [f0, if_pos rfl]) ⟨hi.1, ?_⟩
    rw [f2, if_pos rfl]; omega
theorem Rl.move (R : Rl u L T (-1) kq) {P p i : Int} (hp : 0 ≤ p ∧ p < P) (hP : P ≤ 16) (hc : Cl L P) (h : L 0 p ≠ -1) (hi : 0 ≤ i ∧ i < L 2 (L 0 p)) : Rl u (mvF L p i) (mvT T P p i) (-1) kq := by
  obtain ⟨e0, e1, e2, ek, MB⟩ := mvF_rows R.wf ⟨hp.1, by omega⟩ h hi
  have us : ∀ x : Int, Us (mvF L p i) (-1) x ↔ Us L (-1) x := by intro x; unfold Us; rw [e0]
  have pus := fun (x : Int) (hx : 0 ≤ x ∧ x < 16) h => R.pus hx h
  obtain ⟨⟨mb, wpan, wgrp, wspl, wown, wtw, wts, wwin, waxs, wloo, wrank⟩, kk, rng, inj, sur, knd, par, pos, wt, act, box, pan, pla⟩ := R
  first | with_reducible refine Rl.mk ?_ ?_ ?_ ?_ ?_ ?_ ?_ ?_ ?_ ?_ ?_ ?_ ?_ | with_reducible refine Wf.mk ?_ ?_ ?_ ?_ ?_ ?_ ?_ ?_ ?_ ?_ ?_ | with_reducible refine Mb.mk ?_ ?_ ?_ ?_ ?_ | constructor
  · first | with_reducible refine Rl.mk ?_ ?_ ?_ ?_ ?_ ?_ ?_ ?_ ?_ ?_ ?_ ?_ ?_ | with_reducible refine Wf.mk ?_ ?_ ?_ ?_ ?_ ?_ ?_ ?_ ?_ ?_ ?_ | with_reducible refine Mb.mk ?_ ?_ ?_ ?_ ?_ | constructor
    · exact MB
    all_goals first | exact Or.inl rfl | simpa only [e0, e2, ek 5 _ (show 3 ≤ 5 by omega)]
  · exact kk
  · intro x hx; exact rng x ((us x).mp hx)
  · intro x y hx hy; exact inj x y ((us x).mp hx) ((us y).mp hy)
  · intro o h1 h3 h4
    rw [mvT_k (by omega)] at h4
    obtain ⟨x, x1, x2⟩ := sur o h1 h3 h4
    exact ⟨x, (us x).mpr x1, x2⟩
  · intro x hx
    rw [mvT_k (by omega), knd x ((us x).mp hx)]
    unfold kindL
    rw [e0, ek 5 _ (by omega)]
  · intro x hx
    rw [mvT_k (by omega), e0]
    exact par x ((us x).mp hx)
  · intro x hx hq
    have hx := (us x).mp hx
    have bx := hx.1
    have a1 := wgrp x
    have a2 := wspl x
    have a3 := wpan p hp.1 (by omega)
    rw [mvT_k (by omega), e1 x (by omega) (by omega), if_neg (show x ≠ p by omega), if_neg (by omega)]
    exact pos x hx hq
  · intro x hx
    rw [mvT_k (by omega), e0, ek 3 _ (by omega)]
    exact wt x ((us x).mp hx)
  · intro x hx
    rw [mvT_k (by omega), ek 4 _ (by omega)]
    exact act x ((us x).mp hx)
  · intro x hx
    rw [mvT_k (by omega), mvT_k (by omega), mvT_k (by omega), mvT_k (by omega), e0, ek 6 _ (by omega), ek 6 _ (by omega), ek 7 _ (by omega), ek 7 _ (by omega)]
    exact box x ((us x).mp hx)
  · intro x h1 h3
    rw [mvT_k (by omega), e0]
    exact pan x h1 h3
  · intro x h1 h3 h4
    rw [e0] at h4
    have a := pan x h1 h3
    have b := pan p hp.1 (by omega)
    have pl := pla p hp.1 (by omega) h
    have px := pla x h1 h3 h4
    have c := hc x
    rw [if_neg h4] at a
    rw [if_neg h] at b
    have i9 := inj _ _ (pus x ⟨h1, h3⟩ h4) (pus p ⟨hp.1, by omega⟩ h)
    rw [mvT_10, e1 x h1 (by omega), a, b]
    unfold mvI
    rw [px, pl]
    by_cases z : x = p
    · rw [if_pos z, if_pos z]
    · rw [if_neg z, if_neg z]
      by_cases y : L 0 x = L 0 p
      · rw [if_pos y, if_pos]
        refine ⟨⟨h1, ?_⟩, by rw [y]⟩
        by_cases w : x < P
        · exact w
        · exact absurd (c (by omega) h3) h4
      · rw [if_neg y, if_neg (fun w => y (i9 w.2))]
/-- another weight -/
theorem Rl.weigh (R : Rl u L T (-1) kq) {g v : Int} (hg : Us L (-1) g) : Rl u (up L 3 g v) (up T 3 (u g) v) (-1) kq := by
  obtain ⟨wf, kk, rng, inj, sur, knd, par, pos, wt, act, box, pan, pla⟩ := R
  have us : ∀ x : Int, Us (up L 3 g v) (-1) x ↔ Us L (-1) x := fun x => by unfold Us up; simp
  first | with_reducible refine Rl.mk ?_ ?_ ?_ ?_ ?_ ?_ ?_ ?_ ?_ ?_ ?_ ?_ ?_ | with_reducible refine Wf.mk ?_ ?_ ?_ ?_ ?_ ?_ ?_ ?_ ?_ ?_ ?_ | with_reducible refine Mb.mk ?_ ?_ ?_ ?_ ?_ | constructor
  · obtain ⟨⟨m1, m2, m3, m4, m5⟩, w2, w3, w4, w5, w6, w7, w8, w9, w10, w11⟩ := wf
    first | with_reducible refine Rl.mk ?_ ?_ ?_ ?_ ?_ ?_ ?_ ?_ ?_ ?_ ?_ ?_ ?_ | with_reducible refine Wf.mk ?_ ?_ ?_ ?_ ?_ ?_ ?_ ?_ ?_ ?_ ?_ | with_reducible refine Mb.mk ?_ ?_ ?_ ?_ ?_ | constructor
    · first | with_reducible refine Rl.mk ?_ ?_ ?_ ?_ ?_ ?_ ?_ ?_ ?_ ?_ ?_ ?_ ?_ | with_reducible refine Wf.mk ?_ ?_ ?_ ?_ ?_ ?_ ?_ ?_ ?_ ?_ ?_ | with_reducible refine Mb.mk ?_ ?_ ?_ ?_ ?_ | constructor
      all_goals simpa [up]
    all_goals simpa [up]
  · exact kk
  · intro x hx; exact rng x ((us x).mp hx)
  · intro x y hx hy; exact inj x y ((us x).mp hx) ((us y).mp hy)
  · intro o h1 h2 h3
    obtain ⟨x, x1, x2⟩ := sur o h1 h2 (by simpa [up] using h3)
    exact ⟨x, (us x).mpr x1, x2⟩
  · intro x hx; simpa [up, kindL] using knd x ((us x).mp hx)
  · intro x hx; simpa [up] using par x ((us x).mp hx)
  · intro x hx; simpa [up] using pos x ((us x).mp hx)
  · intro x hx
    have hx := (us x).mp hx
    have a := wt x hx
    have b := inj x g hx hg
    show 32 ≤ L 0 x → L 0 x < 47 → (if (3 : Nat) = 3 ∧ u x = u g then v else T 3 (u x)) = (if (3 : Nat) = 3 ∧ x = g then v else L 3 x)
    by_cases e : x = g
    · subst e; simp
    · have : u x ≠ u g := fun z => e (b z)
      rw [if_neg (by simp [this]), if_neg (by simp [e])]
      exact a
  · intro x hx h
    simpa [up] using act x ((us x).mp hx) h
  · intro x hx; simpa [up] using box x ((us x).mp hx)
  · simpa [up] using pan
  · simpa [up] using pla
end RL
