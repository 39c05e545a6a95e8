/-! the new group comes in -/
theorem ciT_0 {T : Mem} {h g ps wt : Int} {w : Nat} (hw : w = 0 ∨ 4 ≤ w) (o : Int) : ciT T h g ps wt w o = T w o := by
  have h1 : w ≠ 1 := by omega
  have h2 : w ≠ 2 := by omega
  have h3 : w ≠ 3 := by omega
  simp [ciT, ciP, up_e, h1, h2, h3]
theorem ciT_1 {T : Mem} {h g ps wt : Int} (o : Int) : ciT T h g ps wt 1 o = if o = g then h else T 1 o := by simp [ciT, ciP, up_e]
theorem ciT_3 {T : Mem} {h g ps wt : Int} (o : Int) : ciT T h g ps wt 3 o = if o = g then wt else T 3 o := by simp [ciT, ciP, up_e]
theorem ciT_2 {T : Mem} {h g ps wt : Int} (o : Int) : ciT T h g ps wt 2 o = if o = g then ps else if (0 ≤ o ∧ o < 32) ∧ isT T h o = 1 ∧ ps ≤ T 2 o then T 2 o + 1 else T 2 o := by
  by_cases e : o = g
  · simp [ciT, ciP, up_e, e]
  · simp only [ciT, ciP, up_e, isT]
    grind
section RL
variable {u : Int → Int} {L T : Mem} {q kq : Int}
theorem Rl.insS {g : Int} (R : Rl u L T g 1) {h i w : Int} (hg : 16 ≤ g) (hh : Us L g h) (h32 : 32 ≤ h) (hi : 0 ≤ i ∧ i ≤ L 2 h) : Rl u (up (insF L g h i) 3 g w) (ciT T (u h) (u g) i w) (-1) 1 := by
  have lo := R.wf.loo
  have bh := hh.1
  have hg' : 0 ≤ g ∧ g < 49 := by omega
  have hh' : 16 ≤ h ∧ h < 49 := by omega
  have g0 : L 0 g = -1 := by omega
  have h0 : L 0 h ≠ -1 := by have := hh.2; omega
  have e0 : ∀ o : Int, up (insF L g h i) 3 g w 0 o = if o = g then h else L 0 o := fun o => by rw [up_e, if_neg (by omega), insF_0 hg' hh']
  have e1 : ∀ o : Int, up (insF L g h i) 3 g w 1 o = if o = g then i else if (0 ≤ o ∧ o < 49) ∧ L 0 o = h ∧ i ≤ L 1 o then L 1 o + 1 else L 1 o := fun o => by rw [up_e, if_neg (by omega), insF_1 hg' hh']
  have e2 : ∀ o : Int, up (insF L g h i) 3 g w 2 o = if o = h then L 2 h + 1 else L 2 o := fun o => by rw [up_e, if_neg (by omega), insF_2 hg' hh']
  have e3 : ∀ o : Int, up (insF L g h i) 3 g w 3 o = if o = g then w else L 3 o := fun o => by rw [up_e, insF_k (by omega) hg' hh']; simp
  have ek : ∀ (k : Nat) (o : Int), 4 ≤ k → up (insF L g h i) 3 g w k o = L k o := fun k o hk => by rw [up_e, if_neg (by omega), insF_k (by omega) hg' hh']
  have ug : Us L g g := ⟨by omega, Or.inr rfl⟩
  have us : ∀ x : Int, Us (up (insF L g h i) 3 g w) (-1) x ↔ Us L g x := by
    intro x; unfold Us; rw [e0]; grind
  have une : ∀ x : Int, Us L g x → x ≠ g → u x ≠ u g := fun x hx hn z => hn (R.inj x g hx ug z)
  first | with_reducible refine Rl.mk ?_ ?_ ?_ ?_ ?_ ?_ ?_ ?_ ?_ ?_ ?_ ?_ ?_ | with_reducible refine Wf.mk ?_ ?_ ?_ ?_ ?_ ?_ ?_ ?_ ?_ ?_ ?_ | with_reducible refine Mb.mk ?_ ?_ ?_ ?_ ?_ | constructor
  · first | with_reducible refine Rl.mk ?_ ?_ ?_ ?_ ?_ ?_ ?_ ?_ ?_ ?_ ?_ ?_ ?_ | with_reducible refine Wf.mk ?_ ?_ ?_ ?_ ?_ ?_ ?_ ?_ ?_ ?_ ?_ | with_reducible refine Mb.mk ?_ ?_ ?_ ?_ ?_ | constructor
    · have m := R.wf.mb.ins hg' hh' g0 hi
      obtain ⟨m1, m2, m3, m4, m5⟩ := m
      first | with_reducible refine Rl.mk ?_ ?_ ?_ ?_ ?_ ?_ ?_ ?_ ?_ ?_ ?_ ?_ ?_ | with_reducible refine Wf.mk ?_ ?_ ?_ ?_ ?_ ?_ ?_ ?_ ?_ ?_ ?_ | with_reducible refine Mb.mk ?_ ?_ ?_ ?_ ?_ | constructor
      all_goals simpa [up]
    · intro x h1 h3; rw [e0, if_neg (by omega)]; exact R.wf.pan x h1 h3
    · intro x h1 h3; have := R.wf.grp x h1 h3; rw [e0]; grind
    · intro x h1 h3; rw [e0, if_neg (by omega)]; exact R.wf.spl x h1 h3
    · intro x h1 h3 h4 h5
      have ex := e0 x
      have a := R.wf.own x h1 h3
      left
      by_cases hx : x = g
      · rw [if_pos hx] at ex
        rw [ex, e0, if_neg (by omega)]
        exact h0
      · rw [if_neg hx] at ex
        rw [ex] at h4 h5 ⊢
        rw [e0]
        have := a h4 h5
        split
        · omega
        · omega
    · rw [e0, if_neg (by omega)]; exact R.wf.tw
    · rw [e0, if_neg (by omega)]; exact R.wf.ts
    · rw [e2, if_neg (by omega)]; exact R.wf.win
    · intro x h1 h3; rw [ek 5 _ (by omega)]; exact R.wf.axs x h1 h3
    · exact Or.inl rfl
    · obtain ⟨r, hr⟩ := R.wf.rank
      refine ⟨fun x => if x = g then 0 else r x + 1, fun x h1 h3 h4 h5 => ?_⟩
      rw [e0] at h4 h5 ⊢
      have := hr x h1 h3
      grind
  · exact R.kk
  · intro x hx; exact R.rng x ((us x).mp hx)
  · intro x y hx hy; exact R.inj x y ((us x).mp hx) ((us y).mp hy)
  · intro o h1 h3 h4
    rw [ciT_0 (by omega)] at h4
    obtain ⟨x, x1, x2⟩ := R.sur o h1 h3 h4
    exact ⟨x, (us x).mpr x1, x2⟩
  · intro x hx
    have hx := (us x).mp hx
    have b := hx.1
    rw [ciT_0 (by omega), R.knd x hx]
    unfold kindL
    rw [e0, ek 5 _ (by omega)]
    grind
  · intro x hx
    have hx := (us x).mp hx
    rw [ciT_1, e0]
    by_cases z : x = g
    · subst z
      rw [if_pos rfl, if_pos rfl, if_pos (by omega)]
    · rw [if_neg (une x hx z), if_neg z]
      exact R.par x hx
  · intro x hx hq
    have hx := (us x).mp hx
    have b := hx.1
    rw [ciT_2, e1]
    by_cases z : x = g
    · subst z
      rw [if_pos rfl, if_pos rfl]
    · have it := R.isTs hh h32 hx
      have r := R.rng x hx
      have p := R.pos x hx z
      rw [if_neg (une x hx z), if_neg z, p]
      grind
  · intro x hx
    have hx := (us x).mp hx
    rw [ciT_3, e0, e3]
    by_cases z : x = g
    · subst z
      rw [if_pos rfl, if_pos rfl]
      intro _ _; rw [if_pos rfl]
    · rw [if_neg (une x hx z), if_neg z, if_neg z]
      exact R.wt x hx
  · intro x hx h3
    have hx := (us x).mp hx
    rw [ciT_0 (by omega), ek 4 _ (by omega)]
    exact R.act x hx h3
  · intro x hx h4
    have hx := (us x).mp hx
    rw [e0] at h4
    have z : x ≠ g := by intro e; rw [if_pos e] at h4; omega
    rw [if_neg z] at h4
    rw [ciT_0 (by omega), ciT_0 (by omega), ciT_0 (by omega), ciT_0 (by omega), ek 6 _ (by omega), ek 6 _ (by omega), ek 7 _ (by omega), ek 7 _ (by omega)]
    exact R.box x hx h4
  · intro x h1 h3
    rw [ciT_0 (by omega), e0, if_neg (show x ≠ g by omega)]
    exact R.pan x h1 h3
  · intro x h1 h3 h4
    rw [e0, if_neg (show x ≠ g by omega)] at h4
    have := R.wf.pan x h1 h3
    rw [ciT_0 (by omega), e1, if_neg (show x ≠ g by omega), if_neg (by omega)]
    exact R.pla x h1 h3 h4
/-- into the window, as root, or on the stack, at the top -/
theorem Rl.insT {g : Int} (R : Rl u L T g kq) {h : Int} (hg : 16 ≤ g) (hh : (h = 47 ∧ L 2 47 = 0 ∧ kq = 1) ∨ (h = 48 ∧ kq = 4)) {T' : Mem}
    (t0 : ∀ (k : Nat) (o : Int), k = 0 ∨ k = 1 ∨ k = 3 ∨ k = 4 ∨ 9 ≤ k → T' k o = T k o) (t2 : ∀ o : Int, T' 2 o = if o = u g then L 2 h else T 2 o)
    (tb : ∀ (k : Nat) (o : Int), 5 ≤ k → k ≤ 8 → o ≠ u g → T' k o = T k o) {L' : Mem} (l0 : ∀ (k : Nat) (o : Int), k < 6 → L' k o = insF L g h (L 2 h) k o)
    (l6 : ∀ (k : Nat) (o : Int), 6 ≤ k → o ≠ 2 * (g - 16) → o ≠ 2 * (g - 16) + 1 → L' k o = L k o)
    (lt : h = 48 → T' 5 (u g) = L' 6 (2 * (g - 16)) ∧ T' 6 (u g) = L' 6 (2 * (g - 16) + 1) ∧ T' 7 (u g) = L' 7 (2 * (g - 16)) ∧ T' 8 (u g) = L' 7 (2 * (g - 16) + 1)) : Rl u L' T' (-1) 1 := by
  have lo := R.wf.loo
  have hg' : 0 ≤ g ∧ g < 49 := by omega
  have hh' : 16 ≤ h ∧ h < 49 := by omega
  have g0 : L 0 g = -1 := by omega
  have nn := R.wf.mb.nng h hh'.1 hh'.2
  have e0 : ∀ o : Int, L' 0 o = if o = g then h else L 0 o := fun o => by rw [l0 0 o (by omega), insF_0 hg' hh']
  have e1 : ∀ o : Int, 0 ≤ o → o < 49 → L' 1 o = if o = g then L 2 h else L 1 o := fun o o1 o2 => by
    rw [l0 1 o (by omega), insF_1 hg' hh']
    have := R.wf.mb.rng o o1 o2
    grind
  have e2 : ∀ o : Int, L' 2 o = if o = h then L 2 h + 1 else L 2 o := fun o => by rw [l0 2 o (by omega), insF_2 hg' hh']
  have ek : ∀ (k : Nat) (o : Int), 3 ≤ k → k < 6 → L' k o = L k o := fun k o hk hk2 => by rw [l0 k o hk2, insF_k (by omega) hg' hh']
  have ug : Us L g g := ⟨by omega, Or.inr rfl⟩
  have us : ∀ x : Int, Us L' (-1) x ↔ Us L g x := by
    intro x; unfold Us; rw [e0]; grind
  have une : ∀ x : Int, Us L g x → x ≠ g → u x ≠ u g := fun x hx hn z => hn (R.inj x g hx ug z)
  first | with_reducible refine Rl.mk ?_ ?_ ?_ ?_ ?_ ?_ ?_ ?_ ?_ ?_ ?_ ?_ ?_ | with_reducible refine Wf.mk ?_ ?_ ?_ ?_ ?_ ?_ ?_ ?_ ?_ ?_ ?_ | with_reducible refine Mb.mk ?_ ?_ ?_ ?_ ?_ | constructor
  · first | with_reducible refine Rl.mk ?_ ?_ ?_ ?_ ?_ ?_ ?_ ?_ ?_ ?_ ?_ ?_ ?_ | with_reducible refine Wf.mk ?_ ?_ ?_ ?_ ?_ ?_ ?_ ?_ ?_ ?_ ?_ | with_reducible refine Mb.mk ?_ ?_ ?_ ?_ ?_ | constructor
    · have m := R.wf.mb.ins hg' hh' g0 ⟨nn, Int.le_refl _⟩
      obtain ⟨m1, m2, m3, m4, m5⟩ := m
      first | with_reducible refine Rl.mk ?_ ?_ ?_ ?_ ?_ ?_ ?_ ?_ ?_ ?_ ?_ ?_ ?_ | with_reducible refine Wf.mk ?_ ?_ ?_ ?_ ?_ ?_ ?_ ?_ ?_ ?_ ?_ | with_reducible refine Mb.mk ?_ ?_ ?_ ?_ ?_ | constructor
      all_goals simpa only [l0 0 _ (by omega), l0 1 _ (by omega), l0 2 _ (by omega)]
    · intro x h1 h3; rw [e0, if_neg (by omega)]; exact R.wf.pan x h1 h3
    · intro x h1 h3; have := R.wf.grp x h1 h3; rw [e0]; grind
    · intro x h1 h3; rw [e0, if_neg (by omega)]; exact R.wf.spl x h1 h3
    · intro x h1 h3 h4 h5
      have ex := e0 x
      have a := R.wf.own x h1 h3
      left
      by_cases hx : x = g
      · rw [if_pos hx] at ex; omega
      · rw [if_neg hx] at ex
        rw [ex] at h4 h5 ⊢
        rw [e0]
        have := a h4 h5
        split
        · omega
        · omega
    · rw [e0, if_neg (by omega)]; exact R.wf.tw
    · rw [e0, if_neg (by omega)]; exact R.wf.ts
    · rw [e2]; have := R.wf.win; grind
    · intro x h1 h3; rw [ek 5 _ (by omega) (by omega)]; exact R.wf.axs x h1 h3
    · exact Or.inl rfl
    · obtain ⟨r, hr⟩ := R.wf.rank
      refine ⟨r, fun x h1 h3 h4 h5 => ?_⟩
      rw [e0] at h4 h5 ⊢
      have := hr x h1 h3
      grind
  · exact Or.inl rfl
  · intro x hx; exact R.rng x ((us x).mp hx)
  · intro x y hx hy; exact R.inj x y ((us x).mp hx) ((us y).mp hy)
  · intro o h1 h3 h4
    rw [t0 0 _ (by omega)] at h4
    obtain ⟨x, x1, x2⟩ := R.sur o h1 h3 h4
    exact ⟨x, (us x).mpr x1, x2⟩
  · intro x hx
    have hx := (us x).mp hx
    have b := hx.1
    rw [t0 0 _ (by omega), R.knd x hx]
    unfold kindL
    rw [e0, ek 5 _ (by omega) (by omega)]
    grind
  · intro x hx
    have hx := (us x).mp hx
    rw [t0 1 _ (by omega), e0, R.par x hx]
    grind
  · intro x hx hq
    have hx := (us x).mp hx
    have b := hx.1
    rw [t2, e1 x (by omega) (by omega)]
    by_cases z : x = g
    · subst z
      rw [if_pos rfl, if_pos rfl]
    · rw [if_neg (une x hx z), if_neg z]
      exact R.pos x hx z
  · intro x hx
    have hx := (us x).mp hx
    rw [t0 3 _ (by omega), e0, ek 3 _ (by omega) (by omega)]
    by_cases z : x = g
    · rw [if_pos z]; intro _ _; omega
    · rw [if_neg z]; exact R.wt x hx
  · intro x hx h3
    have hx := (us x).mp hx
    rw [t0 4 _ (by omega), ek 4 _ (by omega) (by omega)]
    exact R.act x hx h3
  · intro x hx h4
    have hx := (us x).mp hx
    by_cases z : x = g
    · subst z
      rw [e0, if_pos rfl] at h4
      exact lt h4
    · rw [e0, if_neg z] at h4
      have n := une x hx z
      rw [tb 5 _ (by omega) (by omega) n, tb 6 _ (by omega) (by omega) n, tb 7 _ (by omega) (by omega) n, tb 8 _ (by omega) (by omega) n, l6 6 _ (by omega) (by omega) (by omega), l6 6 _ (by omega) (by omega) (by omega), l6 7 _ (by omega) (by omega) (by omega), l6 7 _ (by omega) (by omega) (by omega)]
      exact R.box x hx h4
  · intro x h1 h3
    rw [t0 9 _ (by omega), e0, if_neg (show x ≠ g by omega)]
    exact R.pan x h1 h3
  · intro x h1 h3 h4
    rw [e0, if_neg (show x ≠ g by omega)] at h4
    rw [t0 10 _ (by omega), e1 x (by omega) (by omega), if_neg (show x ≠ g by omega)]
    exact R.pla x h1 h3 h4
end RL
