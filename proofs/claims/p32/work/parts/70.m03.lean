/-! what the reference finds -/
theorem smG_add (f g : Int → Int) : ∀ m : Nat, smG (fun o => f o + g o) m = smG f m + smG g m
  | 0 => rfl
  | m + 1 => by
    unfold smG
    rw [smG_add f g m]
    omega
theorem smG_swap (F : Int → Int → Int) (n : Nat) : ∀ m : Nat, smG (fun o => smG (fun g => F o g) n) m = smG (fun g => smG (fun o => F o g) m) n
  | 0 => (smG_zero n (fun _ _ _ => rfl)).symm
  | m + 1 => by
    show smG _ m + _ = smG (fun g => smG (fun o => F o g) m + F m g) n
    rw [smG_add, smG_swap F n m]
theorem smG_ext {f g : Int → Int} : ∀ m : Nat, (∀ o : Int, 0 ≤ o → o < m → f o = g o) → smG f m = smG g m
  | 0, _ => rfl
  | m + 1, h => by
    unfold smG
    rw [smG_ext m (fun o h1 h2 => h o h1 (by omega)), h m (by omega) (by omega)]
theorem smG_one (f : Int → Int) (a : Int) : ∀ m : Nat, 0 ≤ a → a < m → smG (fun o => if o = a then f o else 0) m = f a
  | 0, h1, h2 => by omega
  | m + 1, h1, h2 => by
    unfold smG
    by_cases h : a = m
    · subst h
      rw [smG_zero m (fun o h3 h4 => if_neg (by omega))]
      simp
    · rw [smG_one f a m h1 (by omega), if_neg (by omega)]
      omega
theorem smG_mono {f g : Int → Int} : ∀ m : Nat, (∀ o : Int, 0 ≤ o → o < m → f o ≤ g o) → smG f m ≤ smG g m
  | 0, _ => Int.le_refl _
  | m + 1, h => by
    unfold smG
    have h1 := smG_mono m (fun o h1 h2 => h o h1 (by omega))
    have h2 := h m (by omega) (by omega)
    omega
/-- a sum over [0,n) by names: every o with f o ≠ 0 is u g for exactly one g that counts -/
theorem smG_name {f u : Int → Int} (U : Int → Prop) [DecidablePred U] (n m : Nat) (hr : ∀ g : Int, 0 ≤ g → g < n → U g → 0 ≤ u g ∧ u g < m)
    (hi : ∀ g h : Int, 0 ≤ g → g < n → 0 ≤ h → h < n → U g → U h → u g = u h → g = h) (hs : ∀ o : Int, 0 ≤ o → o < m → f o ≠ 0 → ∃ g : Int, 0 ≤ g ∧ g < n ∧ U g ∧ u g = o) :
    smG f m = smG (fun g => if U g then f (u g) else 0) n := by
  have h1 : smG f m = smG (fun o => smG (fun g => if U g ∧ u g = o then f o else 0) n) m := by
    refine smG_ext m fun o o1 o2 => ?_
    by_cases h : f o = 0
    · rw [h, smG_zero n (fun g _ _ => by simp)]
    · obtain ⟨g, g1, g2, g3, g4⟩ := hs o o1 o2 h
      have e : ∀ x : Int, 0 ≤ x → x < n → (if U x ∧ u x = o then f o else 0) = (if x = g then f (u x) else 0) := by
        intro x x1 x2
        by_cases hx : x = g
        · subst hx; rw [if_pos ⟨g3, g4⟩, if_pos rfl, g4]
        · rw [if_neg hx, if_neg]
          rintro ⟨y1, y2⟩
          exact hx (hi x g x1 x2 g1 g2 y1 g3 (by omega))
      rw [smG_ext n e, smG_one (fun x => f (u x)) g n g1 g2, g4]
  rw [h1, smG_swap]
  refine smG_ext n fun g g1 g2 => ?_
  by_cases h : U g
  · rw [if_pos h]
    have r := hr g g1 g2 h
    have e : ∀ o : Int, 0 ≤ o → o < m → (if U g ∧ u g = o then f o else 0) = (if o = u g then f o else 0) := by
      intro o _ _
      by_cases h9 : o = u g
      · rw [if_pos ⟨h, h9.symm⟩, if_pos h9]
      · rw [if_neg h9, if_neg (fun z => h9 z.2.symm)]
    rw [smG_ext m e, smG_one f (u g) m r.1 r.2]
  · rw [if_neg h]
    exact smG_zero m (fun o _ _ => if_neg (fun z => h z.1))
section RL
variable {u : Int → Int} {L T : Mem} {q kq : Int}
/-- a member of a split or of the window or the stack is a group or a split that counts -/
theorem Wf.mem {L : Mem} {q : Int} (W : Wf L q) {t : Int} (ht : 0 ≤ t ∧ t < 49) (h : 32 ≤ L 0 t) : 16 ≤ t ∧ t < 47 := by
  have a0 := W.pan t
  have a3 := W.tw
  have a4 := W.ts
  by_cases c0 : t < 16
  · have := a0 ht.1 c0; omega
  · by_cases c3 : t = 47
    · subst c3; omega
    · by_cases c4 : t = 48
      · subst c4; omega
      · omega
theorem Wf.memG {L : Mem} {q : Int} (W : Wf L q) {t : Int} (ht : 0 ≤ t ∧ t < 49) (h : 16 ≤ L 0 t ∧ L 0 t < 32) : t < 16 := by
  by_cases c : t < 16
  · exact c
  · have a1 := W.grp t
    have a2 := W.spl t
    have a3 := W.tw
    have a4 := W.ts
    by_cases c1 : t < 32
    · have := a1 (by omega) c1; omega
    · by_cases c2 : t < 47
      · have := a2 (by omega) c2; omega
      · by_cases c3 : t = 47
        · subst c3; omega
        · have : t = 48 := by omega
          subst this; omega
theorem Wf.nq {L : Mem} {q : Int} (W : Wf L q) {g : Int} (hg : 16 ≤ g ∧ g < 47) (h : L 0 g ≠ -1) : g ≠ q := by
  intro e
  have l := W.loo
  subst e
  omega
theorem Wf.usd {L : Mem} {q : Int} (W : Wf L q) {t : Int} (ht : 0 ≤ t ∧ t < 49) (h : 32 ≤ L 0 t) : Us L q t := ⟨W.mem ht h, Or.inl (by omega)⟩
theorem Rl.kndC (R : Rl u L T q kq) {t : Int} (ht : 0 ≤ t ∧ t < 49) (h : 32 ≤ L 0 t ∧ L 0 t < 48) : 1 ≤ T 0 (u t) ∧ T 0 (u t) ≤ 3 := by
  have hu := R.wf.usd ht h.1
  have a := R.knd t hu
  have b := R.wf.axs t
  have g := R.wf.grp t
  unfold kindL at a
  by_cases c : t < 32
  · have := g hu.1.1 c
    have nq := R.wf.nq hu.1 (by omega)
    rw [if_pos c, if_neg nq, if_neg (by omega)] at a
    omega
  · rw [if_neg c] at a
    have := b (by omega) hu.1.2
    omega
theorem Rl.isTs (R : Rl u L T q kq) {s : Int} (hs : Us L q s) (h32 : 32 ≤ s) {g : Int} (hg : Us L q g) : isT T (u s) (u g) = 1 ↔ L 0 g = s := by
  have us := R.rng s hs
  have pg := R.par g hg
  have r1 := hs.1
  first | with_reducible refine Rl.mk ?_ ?_ ?_ ?_ ?_ ?_ ?_ ?_ ?_ ?_ ?_ ?_ ?_ | with_reducible refine Wf.mk ?_ ?_ ?_ ?_ ?_ ?_ ?_ ?_ ?_ ?_ ?_ | with_reducible refine Mb.mk ?_ ?_ ?_ ?_ ?_ | constructor
  · intro h
    unfold isT at h
    by_cases c : 32 ≤ L 0 g ∧ L 0 g < 47
    · rw [if_pos c] at pg
      have := R.hus hg.1 c
      exact R.inj _ _ this hs (by grind)
    · rw [if_neg c] at pg
      grind
  · intro h
    have c : 32 ≤ L 0 g ∧ L 0 g < 47 := by omega
    rw [if_pos c, h] at pg
    have k := R.kndC (t := g) ⟨by have := hg.1; omega, by have := hg.1; omega⟩ ⟨c.1, by omega⟩
    unfold isT
    rw [if_pos ⟨k, pg⟩]
theorem isT_01 (T : Mem) (h o : Int) : isT T h o = 0 ∨ isT T h o = 1 := by unfold isT; split <;> simp
theorem isT_nz {T : Mem} {h o : Int} (e : isT T h o = 1) : T 0 o ≠ 0 := by unfold isT at e; grind
/-- how many children a split has -/
theorem Rl.kids (R : Rl u L T q kq) {s : Int} (hs : Us L q s) (h32 : 32 ≤ s) : kdT T (u s) = L 2 s := by
  have r1 := hs.1
  have hq : ∀ g : Int, Us L q g → L 0 g = s → g ≠ q := fun g hg h => R.wf.nq hg.1 (by omega)
  unfold kdT
  refine smG_card _ _ (fun o => T 2 o) _ (R.wf.mb.nng s (by omega) (by omega)) (fun o h1 h2 => isT_01 _ _ _) (fun o h1 h2 h3 => ?_) (fun o v h1 h2 h3 h4 h5 h6 h7 => ?_) (fun i h1 h2 => ?_)
  · obtain ⟨g, g1, rfl⟩ := R.sur o h1 (by omega) (isT_nz h3)
    have e := (R.isTs hs h32 g1).mp h3
    have r := R.wf.mb.rng g (by have := g1.1; omega) (by have := g1.1; omega) (by omega)
    have p := R.pos g g1 (hq g g1 e)
    grind
  · obtain ⟨g, g1, rfl⟩ := R.sur o h1 (by omega) (isT_nz h5)
    obtain ⟨k, k1, rfl⟩ := R.sur v h3 (by omega) (isT_nz h6)
    have e := (R.isTs hs h32 g1).mp h5
    have e2 := (R.isTs hs h32 k1).mp h6
    have p := R.pos g g1 (hq g g1 e)
    have p2 := R.pos k k1 (hq k k1 e2)
    have h8 : T 2 (u g) = T 2 (u k) := h7
    have b1 := g1.1
    have b2 := k1.1
    rw [R.wf.mb.inj g k (by omega) (by omega) (by omega) (by omega) (by omega) (by omega) (by omega)]
  · obtain ⟨t, t1, t2, t3, t4⟩ := R.wf.mb.sur s i (by omega) (by omega) h1 h2
    have ut := R.wf.usd ⟨t1, t2⟩ (by omega)
    have r := R.rng t ut
    exact ⟨u t, r.1, by omega, (R.isTs hs h32 ut).mpr t3, by rw [R.pos t ut (hq t ut t3)]; exact t4⟩
/-- the child of a split at a place -/
theorem Rl.kid (R : Rl u L T q kq) {s : Int} (hs : Us L q s) (h32 : 32 ≤ s) {k : Int} (hk : 0 ≤ k ∧ k < L 2 s) : chT T (u s) k = u (mbrF L s k) := by
  have r1 := hs.1
  have hq : ∀ g : Int, Us L q g → L 0 g = s → g ≠ q := fun g hg h => R.wf.nq hg.1 (by omega)
  obtain ⟨m1, m2, m3⟩ := mbrF_get R.wf.mb ⟨by omega, by omega⟩ hk
  generalize mbrF L s k = t at *
  have ut := R.wf.usd m1 (by omega)
  have r := R.rng t ut
  have p := R.pos t ut (hq t ut m2)
  have hi : ∀ o : Int, isC T (u s) k o = 1 ↔ (isT T (u s) o = 1 ∧ T 2 o = k) := by
    intro o; unfold isC isT; grind
  unfold chT
  refine laG_hit 32 r.1 (by omega) ((hi _).mpr ⟨(R.isTs hs h32 ut).mpr m2, by omega⟩) (fun o h1 h2 h3 => ?_)
  obtain ⟨h4, h5⟩ := (hi o).mp h3
  obtain ⟨g, g1, rfl⟩ := R.sur o h1 (by omega) (isT_nz h4)
  have e := (R.isTs hs h32 g1).mp h4
  have p2 := R.pos g g1 (hq g g1 e)
  have b1 := g1.1
  rw [R.wf.mb.inj g t (by omega) (by omega) (by omega) (by omega) (by omega) (by omega) (by omega)]
theorem Rl.kidNo (R : Rl u L T q kq) {s : Int} (hs : Us L q s) (h32 : 32 ≤ s) {k : Int} (hk : k < 0 ∨ L 2 s ≤ k) : chT T (u s) k = -1 := by
  have r1 := hs.1
  have hq : ∀ g : Int, Us L q g → L 0 g = s → g ≠ q := fun g hg h => R.wf.nq hg.1 (by omega)
  have hi : ∀ o : Int, isC T (u s) k o = 1 ↔ (isT T (u s) o = 1 ∧ T 2 o = k) := by
    intro o; unfold isC isT; grind
  unfold chT
  refine laG_no 32 (fun o h1 h2 h3 => ?_)
  obtain ⟨h4, h5⟩ := (hi o).mp h3
  obtain ⟨g, g1, rfl⟩ := R.sur o h1 (by omega) (isT_nz h4)
  have e := (R.isTs hs h32 g1).mp h4
  have p2 := R.pos g g1 (hq g g1 e)
  have b1 := g1.1
  have r := R.wf.mb.rng g (by omega) (by omega) (by omega)
  rw [e] at r
  omega
/-- the root -/
theorem Rl.root (R : Rl u L T (-1) kq) : rtT T = if L 2 47 = 1 then u (mbrF L 47 0) else -1 := by
  have key : ∀ g : Int, Us L (-1) g → (isT T (-1) (u g) = 1 ↔ L 0 g = 47) := by
    intro g hg
    have pg := R.par g hg
    have kg := R.knd g hg
    have b := hg.1
    have hn : L 0 g ≠ -1 := by have := hg.2; omega
    have h9 := R.wf.grp g
    have h8 := R.wf.spl g
    first | with_reducible refine Rl.mk ?_ ?_ ?_ ?_ ?_ ?_ ?_ ?_ ?_ ?_ ?_ ?_ ?_ | with_reducible refine Wf.mk ?_ ?_ ?_ ?_ ?_ ?_ ?_ ?_ ?_ ?_ ?_ | with_reducible refine Mb.mk ?_ ?_ ?_ ?_ ?_ | constructor
    · intro h
      by_cases c : 32 ≤ L 0 g ∧ L 0 g < 47
      · rw [if_pos c] at pg
        have := R.rng _ (R.hus hg.1 c)
        unfold isT at h; grind
      · unfold isT at h
        unfold kindL at kg
        grind
    · intro h
      rw [if_neg (by omega)] at pg
      have k := R.kndC (t := g) ⟨by omega, by omega⟩ ⟨by omega, by omega⟩
      unfold isT
      rw [if_pos ⟨k, pg⟩]
  unfold rtT
  have w1 := R.wf.mb.nng 47 (by omega) (by omega)
  have w2 := R.wf.win
  split
  · rename_i h
    obtain ⟨m1, m2, m3⟩ := mbrF_get R.wf.mb (h := 47) (i := 0) ⟨by omega, by omega⟩ ⟨by omega, by omega⟩
    generalize mbrF L 47 0 = t at *
    have ut := R.wf.usd m1 (by omega)
    have r := R.rng t ut
    refine fmG_hit 32 (by omega) r.2 ((key t ut).mpr m2) (fun o h1 h2 h3 => ?_)
    obtain ⟨g, g1, rfl⟩ := R.sur o (by omega) h2 (isT_nz h3)
    have e := (key g g1).mp h3
    have b1 := g1.1
    have r1 := R.wf.mb.rng g (by omega) (by omega) (by omega)
    rw [R.wf.mb.inj g t (by omega) (by omega) (by omega) (by omega) (by omega) (by omega) (by grind)]
  · rename_i h
    refine fmG_no 32 (fun o h1 h2 h3 => ?_)
    obtain ⟨g, g1, rfl⟩ := R.sur o (by omega) h2 (isT_nz h3)
    have e := (key g g1).mp h3
    have b1 := g1.1
    have r1 := R.wf.mb.rng g (by omega) (by omega) (by omega)
    grind
/-- the state of a pane -/
theorem Rl.stt (R : Rl u L T (-1) kq) {p : Int} (hp : 0 ≤ p ∧ p < 16) : sxT T p = sttF L p := by
  have e := R.pan p hp.1 hp.2
  unfold sxT sttF
  rw [aL_0 ⟨hp.1, by omega⟩]
  by_cases h : L 0 p = -1
  · rw [if_pos h] at e; rw [if_pos e, if_pos h]
  · rw [if_neg h] at e
    have hu := R.pus hp h
    have r := R.rng _ hu
    have k := R.knd _ hu
    have hp9 := R.wf.pan p hp.1 hp.2
    rw [if_neg (by omega), if_neg h, e, k, aL_0 ⟨by omega, by omega⟩]
    unfold kindL
    grind
end RL
