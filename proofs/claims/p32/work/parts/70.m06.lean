/-! a pane is taken away -/
def Fu (L : Mem) : Prop := ∀ g : Int, 16 ≤ g → g < 47 → (L 0 g = -1 → L 2 g = 0) ∧ (L 0 g ≠ -1 → 1 ≤ L 2 g ∧ (32 ≤ g → 2 ≤ L 2 g))
def Cl (L : Mem) (P : Int) : Prop := ∀ p : Int, P ≤ p → p < 16 → L 0 p = -1
section RL
variable {u : Int → Int} {L T : Mem} {q kq : Int}
theorem Rl.take (R : Rl u L T (-1) kq) (F : Fu L) {P p : Int} (hp : 0 ≤ p ∧ p < P) (hP : P ≤ 16) (hc : Cl L P) :
    Rl u (tkF L p) (tkT T P p) (-1) kq ∧ Fu (tkF L p) ∧ (∀ x : Int, 0 ≤ x → x < 16 → tkF L p 0 x = if x = p then -1 else L 0 x) ∧ okT T P p ∧ (∀ x : Int, 16 ≤ x → x < 47 → tkF L p 0 x ≠ -1 → (tkF L p 0 x = 48 ↔ L 0 x = 48)) := by
  have hp' : 0 ≤ p ∧ p < 49 := by omega
  have pp := R.pan p hp.1 (by omega)
  unfold tkF tkT okT
  rw [aL_0 hp']
  by_cases h : L 0 p = -1
  · rw [if_pos h] at pp
    rw [if_pos h, if_pos pp]
    exact ⟨R, F, fun x _ _ => by grind, fun z => absurd pp z, fun _ _ _ _ => Iff.rfl⟩
  · rw [if_neg h] at pp
    have up := R.pus ⟨hp.1, by omega⟩ h
    have ru := R.rng _ up
    have gr := R.wf.pan p hp.1 (by omega)
    have hh : 16 ≤ L 0 p ∧ L 0 p < 49 := by omega
    have R1 := R.remP hp hP hc h
    have f0 := fun o => remF_0 (L := L) hp' hh o
    have f2 := fun o => remF_2 (L := L) hp' hh o
    have c1 : Cl (remF L p) P := fun x h1 h2 => by rw [f0]; have := hc x h1 h2; grind
    have lenp := R.wf.mb.rng p (by omega) (by omega) h
    generalize hg : L 0 p = g at *
    have u1 : Us (remF L p) (-1) g := ⟨up.1, by rw [f0]; have := up.2; grind⟩
    have g0 : L 0 g ≠ -1 := by have := up.2; omega
    have g1 : remF L p 0 g = L 0 g := by rw [f0, if_neg (by omega)]
    have tb := R1.tabs u1 (by omega) ⟨by omega, hP⟩ c1
    rw [pp]
    have nu : u g ≠ -1 := by omega
    rw [if_neg h, if_neg nu, tb, aL_2 ⟨by omega, by omega⟩, aL_4 ⟨by omega, by omega⟩]
    by_cases z : remF L p 2 g = 0
    · rw [if_pos z, if_pos z]
      have hg9 := R.wf.grp g (by omega) (by omega)
      have R2 := R1.goesN u1 (by omega) z
      have hh1 : 16 ≤ remF L p 0 g ∧ remF L p 0 g < 49 := by omega
      have k0 := fun o => remF_0 (L := remF L p) (t := g) ⟨by omega, by omega⟩ hh1 o
      have k2 := fun o => remF_2 (L := remF L p) (t := g) ⟨by omega, by omega⟩ hh1 o
      have kn := R1.knd g u1
      have pr := R1.par g u1
      unfold kindL at kn
      rw [if_pos (by omega), if_neg (by omega)] at kn
      have lg := R.wf.mb.rng g (by omega) (by omega) g0
      have win := R.wf.win
      by_cases sp : (32 ≤ L 0 g ∧ L 0 g < 47) ∧ aL (remF (remF L p) g) 2 (L 0 g) = 1
      · -- the split goes too
        obtain ⟨sp1, sp2⟩ := sp
        rw [aL_2 ⟨by omega, by omega⟩] at sp2
        rw [if_pos (by omega)] at pr
        have us0 := R.hus up.1 sp1
        have us : Us (remF (remF L p) g) (-1) (L 0 g) := by
          refine ⟨us0.1, ?_⟩
          rw [k0, f0]
          have := us0.2
          have := R.wf.mb.rng (L 0 g)
          obtain ⟨r, hr⟩ := R.wf.rank
          have := hr g (by omega) (by omega) (by omega) (by omega)
          have hne : L 0 g ≠ g := by intro e; rw [e] at this; omega
          rw [if_neg hne, if_neg (by omega)]
          exact us0.2
        have rs := R2.rng _ us
        have kd := R2.kids us (by omega)
        have m := mbrF_get R2.wf.mb (h := L 0 g) (i := 0) ⟨by omega, by omega⟩ ⟨by omega, by omega⟩
        have ki := R2.kid us (by omega) (k := 0) ⟨by omega, by omega⟩
        have R3 := R2.rj us (by omega) sp2 m.1 m.2.1
        have eT : togF (remF L p) g = replF (remF (remF (remF L p) g) (mbrF (remF (remF L p) g) (L 0 g) 0)) (L 0 g) (mbrF (remF (remF L p) g) (L 0 g) 0) := by
          unfold togF togA
          rw [aL_0 (i := g) ⟨by omega, by omega⟩, g1, aL_2 ⟨by omega, by omega⟩, if_pos ⟨sp1, sp2⟩]
        have hf : flI (tkA T P p) (u g) = 0 := by
          unfold flI; rw [kn, g1]; grind
        rw [g1] at pr
        have eN : ngT (tkA T P p) (u g) = rjT (ngA (tkA T P p) (u g)) (u (L 0 g)) (u (mbrF (remF (remF L p) g) (L 0 g) 0)) := by
          unfold ngT
          rw [pr, kd, ki, if_pos ⟨hf, by omega, sp2⟩]
        rw [eT, eN]
        generalize hm : mbrF (remF (remF L p) g) (L 0 g) 0 = c at *
        obtain ⟨m1, m2, m3⟩ := m
        have cm : L 0 c = L 0 g ∧ c ≠ g ∧ c ≠ p := by
          rw [k0, f0] at m2; grind
        have cmr := R.wf.mem m1 (by omega)
        have hh2 : 16 ≤ remF (remF L p) g 0 c ∧ remF (remF L p) g 0 c < 49 := by omega
        have nsc : L 0 g ≠ c := by
          intro e
          obtain ⟨r, hr⟩ := R.wf.rank
          have := hr c cmr.1 cmr.2 (by omega) (by omega)
          rw [cm.1, e] at this
          omega
        refine ⟨R3, fun x h1 h2 => ?_, fun x h1 h2 => ?_, fun _ _ => ?_, fun x h1 h2 => ?_⟩
        · have := F x h1 h2
          rw [replF_0 ⟨by omega, by omega⟩ m1, replF_k (by omega) ⟨by omega, by omega⟩ m1, remF_2 m1 hh2, remF_0 m1 hh2, remF_0 m1 hh2, k2, k0, k0, f2, f0, f0, g1, m2]
          have s0 := us0.2
          have q1 := R.wf.mb.rng (L 0 g) (by omega) (by omega)
          rw [k2, f2, g1] at sp2
          rw [f2] at z
          have q2 := F g up.1.1 up.1.2
          have q3 := F (L 0 g) us0.1.1 us0.1.2
          clear f0 f2 k0 k2 eT eN
          grind
        · rw [replF_0 ⟨by omega, by omega⟩ m1, remF_0 m1 hh2, remF_0 m1 hh2, k0, k0, f0, f0]; grind
        · unfold okN
          rw [pr, kd, ki]
          intro _
          exact (R2.rng c (R2.wf.usd m1 (by omega))).1
        · have hsp := R.wf.spl (L 0 g) (by omega) (by omega)
          rw [replF_0 ⟨by omega, by omega⟩ m1, remF_0 m1 hh2, remF_0 m1 hh2, k0, k0, f0, f0]
          clear f0 f2 k0 k2 eT eN
          grind
      · have eT : togF (remF L p) g = remF (remF L p) g := by
          unfold togF
          rw [aL_0 (i := g) ⟨by omega, by omega⟩, g1, if_neg sp]
        have eN0 : ¬ (flI (tkA T P p) (u g) = 0 ∧ tkA T P p 1 (u g) ≠ -1 ∧ kdT (ngA (tkA T P p) (u g)) (tkA T P p 1 (u g)) = 1) := by
          rintro ⟨a1, a2, a3⟩
          rw [g1] at pr
          by_cases c : 32 ≤ L 0 g ∧ L 0 g < 47
          · rw [if_pos c] at pr
            have us0 := R.hus up.1 c
            have us : Us (remF (remF L p) g) (-1) (L 0 g) := by
              refine ⟨us0.1, ?_⟩
              rw [k0, f0]
              obtain ⟨r, hr⟩ := R.wf.rank
              have := hr g (by omega) (by omega) (by omega) (by omega)
              have hne : L 0 g ≠ g := by intro e; rw [e] at this; omega
              rw [if_neg hne, if_neg (by omega)]
              exact us0.2
            have kd := R2.kids us (by omega)
            rw [pr, kd] at a3
            exact sp ⟨c, by rw [aL_2 ⟨by omega, by omega⟩]; exact a3⟩
          · rw [if_neg c] at pr
            exact a2 pr
        have eN : ngT (tkA T P p) (u g) = ngA (tkA T P p) (u g) := by
          unfold ngT
          rw [if_neg eN0]
        rw [eT, eN]
        refine ⟨R2, fun x h1 h2 => ?_, fun x h1 h2 => ?_, fun _ _ => ?_, fun x h1 h2 => ?_⟩
        · have := F x h1 h2
          rw [k2, k0, f2, f0, g1]
          rw [f2] at z
          have q2 := F g up.1.1 up.1.2
          have q4 : 32 ≤ L 0 g → L 0 g < 47 → L 2 (L 0 g) - 1 ≠ 1 := by
            intro c1 c2 c3
            refine sp ⟨⟨c1, c2⟩, ?_⟩
            rw [aL_2 ⟨by omega, by omega⟩, k2, f2, g1, if_pos rfl, if_neg (by omega)]
            exact c3
          have q5 := R.wf.own g (by omega) (by omega) g0
          clear f0 f2 k0 k2 eT eN eN0 sp
          grind
        · rw [k0, f0]; grind
        · unfold okN
          intro z9
          exact absurd z9 eN0
        · rw [k0, f0]
          clear f0 f2 k0 k2 eT eN
          grind
    · rw [if_neg z, if_neg z]
      have ac := R1.act g u1 (by omega)
      have tat := R1.tabAt u1 (by omega) (P := P) ⟨by omega, hP⟩ c1
      have pl := R.pla p hp.1 (by omega) (by omega)
      have e9 : remF L p 4 (g - 16) = L 4 (g - 16) := remF_k (by omega) hp' (by rw [hg]; exact hh) _
      have fu : ∀ x : Int, 16 ≤ x → x < 47 → (remF L p 0 x = -1 → remF L p 2 x = 0) ∧ (remF L p 0 x ≠ -1 → 1 ≤ remF L p 2 x ∧ (32 ≤ x → 2 ≤ remF L p 2 x)) := by
        intro x h1 h2
        have := F x h1 h2
        rw [f2, if_pos rfl] at z
        rw [f0, f2]
        grind
      rw [ac, aL_1 hp', pl, tat]
      by_cases y : remF L p 4 (g - 16) = p
      · rw [if_pos y, if_pos y, pL_4 ⟨by omega, by omega⟩]
        have em : (if L 1 p < remF L p 2 g then L 1 p else remF L p 2 g - 1) = min (L 1 p) (remF L p 2 g - 1) := by omega
        rw [em]
        refine ⟨R1.actv u1 (by omega), fun x h1 h2 => ?_, fun x h1 h2 => ?_, fun _ e => absurd e z, fun x h1 h2 => ?_⟩
        · simpa [CDockTreeLaw_law_r5321_3fbd41.up] using fu x h1 h2
        · have : remF L p 0 x = if x = p then -1 else L 0 x := f0 x
          simpa [CDockTreeLaw_law_r5321_3fbd41.up] using this
        · have : remF L p 0 x = L 0 x := by rw [f0, if_neg (by omega)]
          simp [CDockTreeLaw_law_r5321_3fbd41.up, this]
      · rw [if_neg y, if_neg y]
        exact ⟨R1, fu, fun x h1 h2 => f0 x, fun _ e => absurd e z, fun x h1 h2 => by rw [f0, if_neg (show x ≠ p by omega)]; exact fun _ => Iff.rfl⟩
end RL
