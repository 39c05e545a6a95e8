/-! a pane goes, a node goes -/
theorem tkA_lo {T : Mem} {P p : Int} {w : Nat} (hw : w ≤ 8) (o : Int) : tkA T P p w o = T w o := by
  have h1 : w ≠ 9 := by omega
  have h2 : w ≠ 10 := by omega
  simp [tkA, tkP, up, h1, h2]
theorem tkA_9 {T : Mem} {P p : Int} (o : Int) : tkA T P p 9 o = if o = p then -1 else T 9 o := by
  simp [tkA, tkP, up]
theorem tkA_10 {T : Mem} {P p : Int} (h : T 9 p ≠ -1) (o : Int) : tkA T P p 10 o = if o = p then 0 else if (0 ≤ o ∧ o < P) ∧ T 9 o = T 9 p ∧ T 10 p < T 10 o then T 10 o - 1 else T 10 o := by
  by_cases e : o = p
  · subst e; simp [tkA, tkP, up]; omega
  · simp [tkA, tkP, up, e, and_assoc]
theorem Wf.rem {L : Mem} {q : Int} (W : Wf L q) {t : Int} (ht : 0 ≤ t ∧ t < 47) (h : L 0 t ≠ -1) (he : 16 ≤ t → L 2 t = 0) : Wf (remF L t) q := by
  have ho := W.mb.hol t ht.1 (by omega)
  have ht' : 0 ≤ t ∧ t < 49 := by omega
  have hh : 16 ≤ L 0 t ∧ L 0 t < 49 := by omega
  have e0 := fun o => remF_0 (L := L) ht' hh o
  first | with_reducible refine Rl.mk ?_ ?_ ?_ ?_ ?_ ?_ ?_ ?_ ?_ ?_ ?_ ?_ ?_ | with_reducible refine Wf.mk ?_ ?_ ?_ ?_ ?_ ?_ ?_ ?_ ?_ ?_ ?_ | with_reducible refine Mb.mk ?_ ?_ ?_ ?_ ?_ | constructor
  · exact W.mb.rem ht' h
  · intro p h1 h2; have := W.pan p h1 h2; rw [e0]; grind
  · intro g h1 h2; have := W.grp g h1 h2; rw [e0]; grind
  · intro g h1 h2; have := W.spl g h1 h2; rw [e0]; grind
  · intro x h1 h2 h3 h4
    rw [e0] at h3 h4
    rw [e0, e0]
    have a := W.own x h1 h2
    have b := W.mb.rng x h1 h2
    have c := W.mb.hol x h1 h2
    by_cases hx : x = t
    · rw [if_pos hx] at h3; omega
    · rw [if_neg hx] at h3 h4 ⊢
      have hn : L 0 x ≠ t := by
        intro e
        have := b h3
        rw [e] at this
        have := he (by omega)
        omega
      rw [if_neg hn]
      exact a h3 h4
  · rw [e0]; have := W.tw; grind
  · rw [e0]; have := W.ts; grind
  · rw [remF_2 ht' hh]; have := W.win; grind
  · intro s h1 h2; rw [remF_k (by omega) ht' hh]; exact W.axs s h1 h2
  · have := W.loo; rw [e0]; grind
  · obtain ⟨r, hr⟩ := W.rank
    refine ⟨r, fun x h1 h2 h3 h4 => ?_⟩
    rw [e0] at h3 h4 ⊢
    have := hr x h1 h2
    grind
section RL
variable {u : Int → Int} {L T : Mem} {q kq : Int}
theorem Rl.remP (R : Rl u L T q kq) {P p : Int} (hp : 0 ≤ p ∧ p < P) (hP : P ≤ 16) (hc : ∀ p : Int, P ≤ p → p < 16 → L 0 p = -1) (h : L 0 p ≠ -1) : Rl u (remF L p) (tkA T P p) q kq := by
  have ho := R.wf.mb.hol p hp.1 (by omega)
  have hp' : 0 ≤ p ∧ p < 49 := by omega
  have hh : 16 ≤ L 0 p ∧ L 0 p < 49 := by omega
  have e0 := fun o => remF_0 (L := L) hp' hh o
  have e1 := fun o => remF_1 (L := L) hp' hh o
  have pp := R.pan p hp.1 (by omega)
  rw [if_neg h] at pp
  have up := R.pus ⟨hp.1, by omega⟩ h
  have rp := R.rng _ up
  have plp := R.pla p hp.1 (by omega) h
  have h9 : T 9 p ≠ -1 := by omega
  have hop := R.wf.pan p hp.1 (by omega)
  have us : ∀ g : Int, Us (remF L p) q g ↔ Us L q g := by
    intro g
    unfold Us
    rw [e0]
    grind
  have e1' : ∀ g : Int, 16 ≤ g → g < 47 → remF L p 1 g = L 1 g := by
    intro g h1 h2
    rw [e1]
    have a := R.wf.grp g
    have b := R.wf.spl g
    rw [if_neg]
    rintro ⟨-, -, h3, -⟩
    omega
  have e0' : ∀ g : Int, 16 ≤ g → remF L p 0 g = L 0 g := by
    intro g h1
    rw [e0, if_neg (by omega)]
  first | with_reducible refine Rl.mk ?_ ?_ ?_ ?_ ?_ ?_ ?_ ?_ ?_ ?_ ?_ ?_ ?_ | with_reducible refine Wf.mk ?_ ?_ ?_ ?_ ?_ ?_ ?_ ?_ ?_ ?_ ?_ | with_reducible refine Mb.mk ?_ ?_ ?_ ?_ ?_ | constructor
  · exact R.wf.rem ⟨hp.1, by omega⟩ h (fun h => by omega)
  · exact R.kk
  · intro g hg; exact R.rng g ((us g).mp hg)
  · intro g k hg hk; exact R.inj g k ((us g).mp hg) ((us k).mp hk)
  · intro o h1 h2 h3
    rw [tkA_lo (by omega)] at h3
    obtain ⟨g, g1, g2⟩ := R.sur o h1 h2 h3
    exact ⟨g, (us g).mpr g1, g2⟩
  · intro g hg
    have hg := (us g).mp hg
    rw [tkA_lo (by omega), R.knd g hg]
    unfold kindL
    rw [e0' g hg.1.1, remF_k (by omega) hp' hh]
  · intro g hg
    have hg := (us g).mp hg
    rw [tkA_lo (by omega), R.par g hg, e0' g hg.1.1]
  · intro g hg hq
    have hg := (us g).mp hg
    rw [tkA_lo (by omega), R.pos g hg hq, e1' g hg.1.1 hg.1.2]
  · intro g hg
    have hg := (us g).mp hg
    rw [tkA_lo (by omega), e0' g hg.1.1, remF_k (by omega) hp' hh]
    exact R.wt g hg
  · intro g hg
    have hg := (us g).mp hg
    rw [tkA_lo (by omega), remF_k (by omega) hp' hh]
    exact R.act g hg
  · intro g hg
    have hg := (us g).mp hg
    rw [e0' g hg.1.1, tkA_lo (by omega), tkA_lo (by omega), tkA_lo (by omega), tkA_lo (by omega), remF_k (k := 6) (by omega) hp' hh, remF_k (k := 6) (by omega) hp' hh, remF_k (k := 7) (by omega) hp' hh, remF_k (k := 7) (by omega) hp' hh]
    exact R.box g hg
  · intro o h1 h2
    have := R.pan o h1 h2
    rw [tkA_9, e0]
    grind
  · intro o h1 h2 h3
    rw [e0] at h3
    have ho : o ≠ p := by intro e; rw [if_pos e] at h3; omega
    rw [if_neg ho] at h3
    have a := R.pan o h1 h2
    rw [if_neg h3] at a
    have b := R.pla o h1 h2 h3
    have c := hc o
    have uo := R.pus ⟨h1, h2⟩ h3
    have i := R.inj _ _ uo up
    rw [tkA_10 h9, e1, if_neg ho, a, pp, b, plp]
    by_cases e : L 0 o = L 0 p
    · have : o < P := by
        by_cases z : o < P
        · exact z
        · exact absurd (c (by omega) h2) h3
      rw [e]
      grind
    · have : u (L 0 o) ≠ u (L 0 p) := fun z => e (i z)
      grind
/-- another active pane -/
theorem Rl.actv (R : Rl u L T q kq) {g v : Int} (hg : Us L q g) (h32 : g < 32) : Rl u (up L 4 (g - 16) v) (up T 4 (u g) v) q kq := by
  obtain ⟨wf, kk, rng, inj, sur, knd, par, pos, wt, act, box, pan, pla⟩ := R
  have us : ∀ x : Int, Us (up L 4 (g - 16) v) q x ↔ Us L q x := fun x => by unfold Us up; simp
  first | with_reducible refine Rl.mk ?_ ?_ ?_ ?_ ?_ ?_ ?_ ?_ ?_ ?_ ?_ ?_ ?_ | with_reducible refine Wf.mk ?_ ?_ ?_ ?_ ?_ ?_ ?_ ?_ ?_ ?_ ?_ | with_reducible refine Mb.mk ?_ ?_ ?_ ?_ ?_ | constructor
  · obtain ⟨⟨m1, m2, m3, m4, m5⟩, w2, w3, w4, w5, w6, w7, w8, w9, w10, w11⟩ := wf
    first | with_reducible refine Rl.mk ?_ ?_ ?_ ?_ ?_ ?_ ?_ ?_ ?_ ?_ ?_ ?_ ?_ | with_reducible refine Wf.mk ?_ ?_ ?_ ?_ ?_ ?_ ?_ ?_ ?_ ?_ ?_ | with_reducible refine Mb.mk ?_ ?_ ?_ ?_ ?_ | constructor
    · first | with_reducible refine Rl.mk ?_ ?_ ?_ ?_ ?_ ?_ ?_ ?_ ?_ ?_ ?_ ?_ ?_ | with_reducible refine Wf.mk ?_ ?_ ?_ ?_ ?_ ?_ ?_ ?_ ?_ ?_ ?_ | with_reducible refine Mb.mk ?_ ?_ ?_ ?_ ?_ | constructor
      all_goals simpa [up]
    all_goals simpa [up]
  · exact kk
  · intro x hx; exact rng x ((us x).mp hx)
  · intro x y hx hy; exact inj x y ((us x).mp hx) ((us y).mp hy)
  · intro o h1 h2 h3
    obtain ⟨x, x1, x2⟩ := sur o h1 h2 (by simpa [up] using h3)
    exact ⟨x, (us x).mpr x1, x2⟩
  · intro x hx; simpa [up, kindL] using knd x ((us x).mp hx)
  · intro x hx; simpa [up] using par x ((us x).mp hx)
  · intro x hx; simpa [up] using pos x ((us x).mp hx)
  · intro x hx; simpa [up] using wt x ((us x).mp hx)
  · intro x hx h
    have hx := (us x).mp hx
    have a := act x hx h
    have b := inj x g hx hg
    show (if (4 : Nat) = 4 ∧ u x = u g then v else T 4 (u x)) = (if (4 : Nat) = 4 ∧ x - 16 = g - 16 then v else L 4 (x - 16))
    by_cases e : x = g
    · subst e; simp
    · have : u x ≠ u g := fun z => e (b z)
      rw [if_neg (by simp [this]), if_neg (by omega)]
      exact a
  · intro x hx; simpa [up] using box x ((us x).mp hx)
  · simpa [up] using pan
  · simpa [up] using pla
theorem ngA_0 {T : Mem} {x : Int} (o : Int) : ngA T x 0 o = if o = x then 0 else T 0 o := by simp [ngA, ngP, up]
theorem ngA_2 {T : Mem} {x : Int} (o : Int) : ngA T x 2 o = if (0 ≤ o ∧ o < 32) ∧ bsI (up T 0 x 0) (flI T x) (T 1 x) o = 1 ∧ T 2 x < T 2 o then T 2 o - 1 else T 2 o := by simp [ngA, ngP, up, and_assoc]
theorem ngA_k {T : Mem} {x : Int} {w : Nat} (h0 : w ≠ 0) (h2 : w ≠ 2) (o : Int) : ngA T x w o = T w o := by simp [ngA, ngP, up, h0, h2]
theorem Rl.bsE (R : Rl u L T (-1) kq) {g k : Int} (hg : Us L (-1) g) (h32 : g < 32) (hk : Us L (-1) k) (hn : k ≠ g) : bsI (Pilot.CDockTreeLaw_law_r5321_3fbd41.up T 0 (u g) 0) (flI T (u g)) (T 1 (u g)) (u k) = 1 ↔ L 0 k = L 0 g := by
  have une : u k ≠ u g := fun z => hn (R.inj k g hk hg z)
  have kg := R.knd g hg
  have kk := R.knd k hk
  have pg := R.par g hg
  have pk := R.par k hk
  have b1 := hg.1
  have b2 := hk.1
  have c1 : L 0 g ≠ -1 := by have := hg.2; omega
  have c2 : L 0 k ≠ -1 := by have := hk.2; omega
  have g1 := R.wf.grp g b1.1 h32
  have k1 := R.wf.grp k
  have k2 := R.wf.spl k
  have k3 := R.wf.axs k
  have hW := R.wf.win
  have hJ := R.wf.mb.inj k g (by omega) (by omega) (by omega) (by omega) c2
  have hRg := R.wf.mb.rng g (by omega) (by omega) c1
  have hRk := R.wf.mb.rng k (by omega) (by omega) c2
  unfold CDockTreeLaw_law_r5321_3fbd41.bsI flI
  simp only [Pilot.CDockTreeLaw_law_r5321_3fbd41.up, une]
  unfold kindL at kg kk
  rw [if_pos h32, if_neg (by omega)] at kg
  by_cases f : L 0 g = 48
  · rw [if_pos f] at kg
    simp only [kg, f]
    grind
  · rw [if_neg f] at kg
    by_cases w : L 0 g = 47
    · rw [if_neg (by omega)] at pg
      simp only [kg, pg]
      grind
    · rw [if_pos (by omega)] at pg
      have hu := R.hus b1 (by omega)
      have rh := R.rng _ hu
      have it := R.isTs hu (by omega) hk
      unfold isT at it
      rw [← pg] at it rh
      simp only [kg]
      grind
theorem Rl.goesN (R : Rl u L T (-1) kq) {g : Int} (hg : Us L (-1) g) (h32 : g < 32) (he : L 2 g = 0) : Rl u (remF L g) (ngA T (u g)) (-1) kq := by
  have b1 := hg.1
  have h : L 0 g ≠ -1 := by have := hg.2; omega
  have ho := R.wf.mb.hol g (by omega) (by omega)
  have hp' : 0 ≤ g ∧ g < 49 := by omega
  have hh : 16 ≤ L 0 g ∧ L 0 g < 49 := by omega
  have e0 := fun o => remF_0 (L := L) hp' hh o
  have e1 := fun o => remF_1 (L := L) hp' hh o
  have g1 := R.wf.grp g b1.1 h32
  have us : ∀ x : Int, Us (remF L g) (-1) x ↔ (Us L (-1) x ∧ x ≠ g) := by
    intro x
    unfold Us
    rw [e0]
    grind
  have une : ∀ x : Int, Us L (-1) x → x ≠ g → u x ≠ u g := fun x hx hn z => hn (R.inj x g hx hg z)
  first | with_reducible refine Rl.mk ?_ ?_ ?_ ?_ ?_ ?_ ?_ ?_ ?_ ?_ ?_ ?_ ?_ | with_reducible refine Wf.mk ?_ ?_ ?_ ?_ ?_ ?_ ?_ ?_ ?_ ?_ ?_ | with_reducible refine Mb.mk ?_ ?_ ?_ ?_ ?_ | constructor
  · exact R.wf.rem (by omega) h (fun _ => he)
  · exact R.kk
  · intro x hx; exact R.rng x ((us x).mp hx).1
  · intro x y hx hy; exact R.inj x y ((us x).mp hx).1 ((us y).mp hy).1
  · intro o h1 h2 h3
    rw [ngA_0] at h3
    by_cases e : o = u g
    · rw [if_pos e] at h3; omega
    · rw [if_neg e] at h3
      obtain ⟨x, x1, x2⟩ := R.sur o h1 h2 h3
      exact ⟨x, (us x).mpr ⟨x1, by intro z; subst z; omega⟩, x2⟩
  · intro x hx
    obtain ⟨hx, hn⟩ := (us x).mp hx
    rw [ngA_0, if_neg (une x hx hn), R.knd x hx]
    unfold kindL
    rw [e0, if_neg hn, remF_k (by omega) hp' hh]
  · intro x hx
    obtain ⟨hx, hn⟩ := (us x).mp hx
    rw [ngA_k (by omega) (by omega), R.par x hx, e0, if_neg hn]
  · intro x hx hq
    obtain ⟨hx, hn⟩ := (us x).mp hx
    have b := R.bsE hg h32 hx hn
    have r := R.rng x hx
    rw [ngA_2, e1, R.pos x hx hq, R.pos g hg (by omega)]
    have bx := hx.1
    grind
  · intro x hx
    obtain ⟨hx, hn⟩ := (us x).mp hx
    rw [ngA_k (by omega) (by omega), e0, if_neg hn, remF_k (by omega) hp' hh]
    exact R.wt x hx
  · intro x hx
    obtain ⟨hx, hn⟩ := (us x).mp hx
    rw [ngA_k (by omega) (by omega), remF_k (by omega) hp' hh]
    exact R.act x hx
  · intro x hx
    obtain ⟨hx, hn⟩ := (us x).mp hx
    rw [e0, if_neg hn, ngA_k (by omega) (by omega), ngA_k (by omega) (by omega), ngA_k (by omega) (by omega), ngA_k (by omega) (by omega), remF_k (k := 6) (by omega) hp' hh, remF_k (k := 6) (by omega) hp' hh, remF_k (k := 7) (by omega) hp' hh, remF_k (k := 7) (by omega) hp' hh]
    exact R.box x hx
  · intro o h1 h2
    have := R.pan o h1 h2
    rw [ngA_k (by omega) (by omega), e0]
    grind
  · intro o h1 h2 h3
    rw [e0, if_neg (by omega)] at h3
    have op := R.wf.pan o h1 h2
    rw [ngA_k (by omega) (by omega), e1, if_neg (by omega)]
    exact R.pla o h1 h2 h3
end RL
