/-! a split with one child goes; a pane is taken away -/
section RL
variable {u : Int → Int} {L T : Mem} {q kq : Int}
theorem rjT_0 {T : Mem} {s c : Int} (o : Int) : rjT T s c 0 o = if o = s then 0 else T 0 o := by simp [rjT, rjC, rjB, rjA, up]
theorem rjT_1 {T : Mem} {s c : Int} (o : Int) : rjT T s c 1 o = if o = c then T 1 s else T 1 o := by simp [rjT, rjC, rjB, rjA, up]
theorem rjT_2 {T : Mem} {s c : Int} (o : Int) : rjT T s c 2 o = if o = c then T 2 s else T 2 o := by simp [rjT, rjC, rjB, rjA, up]
theorem rjT_3 {T : Mem} {s c : Int} (o : Int) : rjT T s c 3 o = if o = c then T 3 s else T 3 o := by simp [rjT, rjC, rjB, rjA, up]
theorem rjT_k {T : Mem} {s c : Int} {w : Nat} (hw : 4 ≤ w) (o : Int) : rjT T s c w o = T w o := by
  have h0 : w ≠ 0 := by omega
  have h1 : w ≠ 1 := by omega
  have h2 : w ≠ 2 := by omega
  have h3 : w ≠ 3 := by omega
  simp [rjT, rjC, rjB, rjA, up, h0, h1, h2, h3]
theorem Rl.rj (R : Rl u L T (-1) kq) {s c : Int} (hs : Us L (-1) s) (h32 : 32 ≤ s) (h1 : L 2 s = 1) (hcr : 0 ≤ c ∧ c < 49) (hc : L 0 c = s) : Rl u (replF (remF L c) s c) (rjT T (u s) (u c)) (-1) kq := by
  have bs := hs.1
  have s0 : L 0 s ≠ -1 := by have := hs.2; omega
  have hcm := R.wf.mem hcr (by omega)
  have uc := R.wf.usd hcr (by omega)
  have hc' : 0 ≤ s ∧ s < 49 := by omega
  have hh : 16 ≤ L 0 c ∧ L 0 c < 49 := by omega
  have sp := R.wf.spl s (by omega) (by omega)
  obtain ⟨r, hr⟩ := R.wf.rank
  have r1 := hr c hcm.1 hcm.2 (by omega) (by omega)
  have r2 := hr s (by omega) (by omega) (by omega)
  rw [hc] at r1
  have nsc : s ≠ c := by intro e; rw [← e] at r1; omega
  have only : ∀ x : Int, 0 ≤ x → x < 49 → L 0 x = s → x = c := by
    intro x x1 x2 x3
    have a := R.wf.mb.rng x x1 x2 (by omega)
    have b := R.wf.mb.rng c hcr.1 hcr.2 (by omega)
    exact R.wf.mb.inj x c x1 x2 hcr.1 hcr.2 (by omega) (by omega) (by rw [x3] at a; rw [hc] at b; omega)
  have nss : L 0 s ≠ s := by intro e; exact nsc (only s (by omega) (by omega) e)
  have e0 : ∀ o : Int, replF (remF L c) s c 0 o = if o = s then -1 else if o = c then L 0 s else L 0 o := by
    intro o
    rw [replF_0 hc' hcr, remF_0 hcr hh, remF_0 hcr hh]
    grind
  have e1 : ∀ o : Int, replF (remF L c) s c 1 o = if o = c then L 1 s else L 1 o := by
    intro o
    rw [replF_1 hc' hcr, remF_1 hcr hh, remF_1 hcr hh]
    have := only o
    grind
  have e2 : ∀ o : Int, replF (remF L c) s c 2 o = if o = s then 0 else L 2 o := by
    intro o
    rw [replF_k (by omega) hc' hcr, remF_2 hcr hh]
    grind
  have e3 : ∀ o : Int, replF (remF L c) s c 3 o = if o = c then L 3 s else L 3 o := by
    intro o
    rw [replF_3 hc' hcr, remF_k (by omega) hcr hh, remF_k (by omega) hcr hh]
  have e9 : ∀ (k : Nat) (o : Int), 4 ≤ k → replF (remF L c) s c k o = L k o := by
    intro k o hk
    rw [replF_k (by omega) hc' hcr, remF_k (by omega) hcr hh]
  have us : ∀ x : Int, Us (replF (remF L c) s c) (-1) x ↔ (Us L (-1) x ∧ x ≠ s) := by
    intro x
    unfold Us
    rw [e0]
    grind
  have une : ∀ x y : Int, Us L (-1) x → Us L (-1) y → x ≠ y → u x ≠ u y := fun x y hx hy hn z => hn (R.inj x y hx hy z)
  first | with_reducible refine Rl.mk ?_ ?_ ?_ ?_ ?_ ?_ ?_ ?_ ?_ ?_ ?_ ?_ ?_ | with_reducible refine Wf.mk ?_ ?_ ?_ ?_ ?_ ?_ ?_ ?_ ?_ ?_ ?_ | with_reducible refine Mb.mk ?_ ?_ ?_ ?_ ?_ | constructor
  · first | with_reducible refine Rl.mk ?_ ?_ ?_ ?_ ?_ ?_ ?_ ?_ ?_ ?_ ?_ ?_ ?_ | with_reducible refine Wf.mk ?_ ?_ ?_ ?_ ?_ ?_ ?_ ?_ ?_ ?_ ?_ | with_reducible refine Mb.mk ?_ ?_ ?_ ?_ ?_ | constructor
    · refine (R.wf.mb.rem hcr (by omega)).repl hc' hcr ?_ ?_
      · rw [remF_0 hcr hh, if_neg nsc]; exact s0
      · rw [remF_0 hcr hh, if_pos rfl]
    · intro p h1 h2; have := R.wf.pan p h1 h2; rw [e0]; grind
    · intro g h1 h2; have := R.wf.grp g h1 h2; rw [e0]; grind
    · intro g h1 h2; have := R.wf.spl g h1 h2; rw [e0]; grind
    · intro x h1 h2 h3 h4
      rw [e0] at h3 h4
      have a := R.wf.own x h1 h2
      have b := R.wf.own s (by omega) (by omega) s0
      have c9 := only x h1 h2
      left
      by_cases hx : x = c
      · subst hx
        rw [if_neg (by omega), if_pos rfl] at h3 h4
        have e : replF (remF L x) s x 0 x = L 0 s := by rw [e0, if_neg (by omega), if_pos rfl]
        rw [e, e0, if_neg nss]
        split
        · exact s0
        · have := b h4; omega
      · by_cases hxs : x = s
        · rw [if_pos hxs] at h3; omega
        · rw [if_neg hxs, if_neg hx] at h3 h4
          have e : replF (remF L c) s c 0 x = L 0 x := by rw [e0, if_neg hxs, if_neg hx]
          have d := a h3 h4
          have : L 0 x ≠ s := fun z => hx (c9 z)
          rw [e, e0, if_neg this]
          split
          · exact s0
          · omega
    · rw [e0]; have := R.wf.tw; grind
    · rw [e0]; have := R.wf.ts; grind
    · rw [e2]; have := R.wf.win; grind
    · intro x h1 h2; rw [e9 5 _ (by omega)]; exact R.wf.axs x h1 h2
    · exact Or.inl rfl
    · refine ⟨r, fun x h1 h2 h3 h4 => ?_⟩
      have a := hr x h1 h2
      have b := only x (by omega) (by omega)
      rw [e0] at h3 h4 ⊢
      grind
  · exact R.kk
  · intro x hx; exact R.rng x ((us x).mp hx).1
  · intro x y hx hy; exact R.inj x y ((us x).mp hx).1 ((us y).mp hy).1
  · intro o h1 h2 h3
    rw [rjT_0] at h3
    by_cases e : o = u s
    · rw [if_pos e] at h3; omega
    · rw [if_neg e] at h3
      obtain ⟨x, x1, x2⟩ := R.sur o h1 h2 h3
      exact ⟨x, (us x).mpr ⟨x1, by intro z; subst z; omega⟩, x2⟩
  · intro x hx
    obtain ⟨hx, hn⟩ := (us x).mp hx
    rw [rjT_0, if_neg (une x s hx hs hn), R.knd x hx]
    unfold kindL
    rw [e0, if_neg hn, e9 5 _ (by omega)]
    grind
  · intro x hx
    obtain ⟨hx, hn⟩ := (us x).mp hx
    have bx := hx.1
    rw [rjT_1, e0, if_neg hn]
    by_cases hxc : x = c
    · subst hxc
      rw [if_pos rfl, if_pos rfl, R.par s hs]
    · rw [if_neg (une x c hx uc hxc), if_neg hxc, R.par x hx]
  · intro x hx hq
    obtain ⟨hx, hn⟩ := (us x).mp hx
    rw [rjT_2, e1]
    by_cases hxc : x = c
    · subst hxc
      rw [if_pos rfl, if_pos rfl, R.pos s hs (by omega)]
    · rw [if_neg (une x c hx uc hxc), if_neg hxc, R.pos x hx hq]
  · intro x hx
    obtain ⟨hx, hn⟩ := (us x).mp hx
    rw [rjT_3, e3, e0, if_neg hn]
    by_cases hxc : x = c
    · subst hxc
      rw [if_pos rfl, if_pos rfl, if_pos rfl]
      exact R.wt s hs
    · rw [if_neg (une x c hx uc hxc), if_neg hxc, if_neg hxc]
      exact R.wt x hx
  · intro x hx
    obtain ⟨hx, hn⟩ := (us x).mp hx
    rw [rjT_k (by omega), e9 4 _ (by omega)]
    exact R.act x hx
  · intro x hx h48
    obtain ⟨hx, hn⟩ := (us x).mp hx
    rw [e0, if_neg hn] at h48
    have hxc : x ≠ c := by intro z; rw [if_pos z] at h48; omega
    rw [if_neg hxc] at h48
    rw [rjT_k (by omega), rjT_k (by omega), rjT_k (by omega), rjT_k (by omega), e9 6 _ (by omega), e9 6 _ (by omega), e9 7 _ (by omega), e9 7 _ (by omega)]
    exact R.box x hx h48
  · intro o h1 h2
    have e : replF (remF L c) s c 0 o = L 0 o := by rw [e0, if_neg (by omega), if_neg (by omega)]
    rw [rjT_k (by omega), e]
    exact R.pan o h1 h2
  · intro o h1 h2 h3
    rw [e0, if_neg (by omega), if_neg (by omega)] at h3
    rw [rjT_k (by omega), e1, if_neg (by omega)]
    exact R.pla o h1 h2 h3
/-- the tab at a place of a group -/
theorem Rl.tabAt (R : Rl u L T q kq) {g : Int} (hg : Us L q g) (h32 : g < 32) {P : Int} (hP : 0 ≤ P ∧ P ≤ 16) (hc : ∀ p : Int, P ≤ p → p < 16 → L 0 p = -1) (k : Int) : toT T P (u g) k = mbrF L g k := by
  have hg16 := hg.1.1
  have ug := R.rng g hg
  have key : ∀ o : Int, 0 ≤ o → o < 16 → (isP T (u g) k o = 1 ↔ (L 0 o = g ∧ L 1 o = k)) := by
    intro o h1 h2
    have e := R.pan o h1 h2
    have e2 := R.pla o h1 h2
    unfold isP
    by_cases h : L 0 o = -1
    · rw [if_pos h] at e; grind
    · rw [if_neg h] at e
      have b := R.inj _ _ (R.pus ⟨h1, h2⟩ h) hg
      have e3 := e2 h
      by_cases hx : L 0 o = g
      · rw [hx] at e; grind
      · have : u (L 0 o) ≠ u g := fun z => hx (b z)
        grind
  unfold toT
  by_cases hk : 0 ≤ k ∧ k < L 2 g
  · obtain ⟨m1, m2, m3⟩ := mbrF_get R.wf.mb (h := g) ⟨by omega, by omega⟩ hk
    generalize mbrF L g k = t at *
    have t16 := R.wf.memG m1 (by omega)
    have tP : t < P := by
      by_cases h : t < P
      · exact h
      · have := hc t (by omega) t16; omega
    refine laG_hit P.toNat m1.1 (by omega) ((key t m1.1 t16).mpr ⟨m2, m3⟩) (fun o h1 h2 h3 => ?_)
    obtain ⟨a, b⟩ := (key o h1 (by omega)).mp h3
    exact R.wf.mb.inj o t h1 (by omega) m1.1 m1.2 (by omega) (by omega) (by omega)
  · rw [mbrF_out R.wf.mb (by omega) (by omega)]
    refine laG_no P.toNat (fun o h1 h2 h3 => ?_)
    obtain ⟨a, b⟩ := (key o h1 (by omega)).mp h3
    have := R.wf.mb.rng o h1 (by omega) (by omega)
    rw [a] at this
    omega
end RL
