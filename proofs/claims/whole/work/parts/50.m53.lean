/-! DRAG: the weights -/
theorem shr_ge {m : Nat} {a : Int} {le wt : Int → Int} (h : ShOk m a le wt) (hn : smG le m < a) {k : Int} (hk : 0 ≤ k ∧ k < m) : le k ≤ shr m a le wt k := by
  obtain ⟨N, hN, hz, hnz⟩ := frS9_end h
  rw [shr_e hN hz hnz k, if_neg (by omega)]
  have b0 : 0 ≤ bnS (frS9 m a le wt N) (lfS m a le wt (frS9 m a le wt N)) k := by unfold bnS; split <;> omega
  unfold shS baS
  by_cases f : frS9 m a le wt N k = 1
  · rw [if_pos f]
    have t : (if frS9 m a le wt N k = 1 ∧ paS m a le wt (frS9 m a le wt N) k < le k then (1 : Int) else 0) ≤ nwS m a le wt (frS9 m a le wt N) :=
      smG_pos (f := fun k => if frS9 m a le wt N k = 1 ∧ paS m a le wt (frS9 m a le wt N) k < le k then 1 else 0) (m := m) (k := k) (fun o _ _ => by show 0 ≤ (if _ then (1 : Int) else 0); split <;> omega) hk
    rw [hz] at t
    by_cases z : paS m a le wt (frS9 m a le wt N) k < le k
    · rw [if_pos ⟨f, z⟩] at t; omega
    · omega
  · rw [if_neg f]; omega
/-- other weights -/
theorem Rl.wts {u : Int → Int} {L L' T T' : Mem} (R : Rl u L T (-1) 1) (hL : ∀ k : Nat, k ≠ 3 → L' k = L k) (hT : ∀ (w : Nat) (o : Int), w ≠ 3 → T' w o = T w o) (hw : ∀ g : Int, Us L (-1) g → 32 ≤ L 0 g → L 0 g < 47 → T' 3 (u g) = L' 3 g) : Rl u L' T' (-1) 1 := by
  have e0 := hL 0 (by omega)
  have e1 := hL 1 (by omega)
  have e2 := hL 2 (by omega)
  have e5 := hL 5 (by omega)
  have us : ∀ g : Int, Us L' (-1) g ↔ Us L (-1) g := fun g => by unfold Us; rw [e0]
  obtain ⟨⟨⟨m1, m2, m3, m4, m5⟩, w2, w3, w4, w5, w6, w7, w8, w9, w10, w11⟩, kk, rng, inj, sur, knd, par, pos, wt, act, box, pan, pla⟩ := R
  refine Rl.mk (Wf.mk (Mb.mk ?_ ?_ ?_ ?_ ?_) ?_ ?_ ?_ ?_ ?_ ?_ ?_ ?_ ?_ ?_) kk ?_ ?_ ?_ ?_ ?_ ?_ ?_ ?_ ?_ ?_ ?_
  · rw [e0]; exact m1
  · rw [e2]; exact m2
  · rw [e0, e1, e2]; exact m3
  · rw [e0, e1]; exact m4
  · rw [e0, e1, e2]; exact m5
  · rw [e0]; exact w2
  · rw [e0]; exact w3
  · rw [e0]; exact w4
  · rw [e0]; exact w5
  · rw [e0]; exact w6
  · rw [e0]; exact w7
  · rw [e2]; exact w8
  · rw [e5]; exact w9
  · rw [e0]; exact w10
  · rw [e0]; exact w11
  · exact fun g hg => rng g ((us g).mp hg)
  · exact fun g k hg hk => inj g k ((us g).mp hg) ((us k).mp hk)
  · intro o h1 h2 h3
    rw [hT _ _ (by omega)] at h3
    obtain ⟨g, g1, g2⟩ := sur o h1 h2 h3
    exact ⟨g, (us g).mpr g1, g2⟩
  · intro g hg
    rw [hT _ _ (by omega), knd g ((us g).mp hg)]
    unfold kindL; rw [e0, e5]
  · intro g hg; rw [hT _ _ (by omega), e0]; exact par g ((us g).mp hg)
  · intro g hg; rw [hT _ _ (by omega), e1]; exact pos g ((us g).mp hg)
  · intro g hg; rw [e0]; exact hw g ((us g).mp hg)
  · intro g hg; rw [hT _ _ (by omega), hL 4 (by omega)]; exact act g ((us g).mp hg)
  · intro g hg; rw [e0, hT _ _ (by omega), hT _ _ (by omega), hT _ _ (by omega), hT _ _ (by omega), hL 6 (by omega), hL 7 (by omega)]; exact box g ((us g).mp hg)
  · intro p h1 h2; rw [e0, hT _ _ (by omega)]; exact pan p h1 h2
  · intro p h1 h2; rw [e0, e1, hT _ _ (by omega)]; exact pla p h1 h2
/-- what the class writes -/
theorem moT_e {P L : Mem} (h : MoW P L) {s i : Int} (hs : 16 ≤ s ∧ s < 49) (hi : (0 ≤ i ∧ i < 16) ∧ i < L 2 s) : mo P s i = mbrF L s i := by
  unfold mo
  rw [if_pos hi.1, gKr (by omega) (by omega)]
  exact h s i hs.1 hs.2 hi.1.1 hi.2
theorem sL_row {L : Mem} {k k' : Nat} {i v : Int} (h : k' ≠ k) : sL L k i v k' = L k' := by
  unfold sL sK puF
  split
  · funext j; exact up_a _ _ _ _ h
  · rfl
theorem mdS_3 {L P : Mem} (W : Wf L (-1)) (M : MoW P L) {s ax : Int} (hs : 32 ≤ s ∧ s < 47) (hax : ax = 0 ∨ ax = 1) (hb : ∀ j : Int, 0 ≤ j → j < L 2 s → -2147483648 ≤ P 6 (2 * mbrF L s j + ax) ∧ P 6 (2 * mbrF L s j + ax) ≤ 2147483647) :
    ∀ j : Nat, (j : Int) ≤ L 2 s → j ≤ 16 → ∀ o : Int, 0 ≤ o → o < 49 → mdS L P s ax j 3 o = if L 0 o = s ∧ L 1 o < j then P 6 (2 * o + ax) else L 3 o
  | 0, _, _, o, h1, h2 => by
    rw [if_neg]
    · rfl
    · intro z
      have := W.mb.rng o h1 h2 (by omega)
      omega
  | j + 1, hj, h16, o, h1, h2 => by
    obtain ⟨m1, m2, m3⟩ := mbrF_get W.mb (h := s) (i := j) (by omega) (by omega)
    have bj := hb j (by omega) (by omega)
    have ih := mdS_3 W M hs hax hb j (by omega) (by omega) o h1 h2
    rw [mdS, moT_e M (by omega) (by omega), sL3 m1 (by rw [gKr (by omega) (by omega)]; exact bj), up_e, gKr (by omega) (by omega), ih]
    by_cases z : o = mbrF L s j
    · rw [if_pos ⟨rfl, z⟩, if_pos ⟨by rw [z]; exact m2, by rw [z, m3]; omega⟩, z]
    · rw [if_neg (by omega)]
      by_cases y : L 0 o = s ∧ L 1 o < j
      · rw [if_pos y, if_pos (by omega)]
      · rw [if_neg y, if_neg]
        intro w
        have e1 : L 1 o = j := by omega
        exact z (W.mb.inj o _ h1 h2 m1.1 m1.2 (by omega) (by omega) (by omega))
/-- what the reference writes -/
theorem drgT_3 {u : Int → Int} {L T Z : Mem} (R : Rl u L T (-1) 1) {s g d : Int} (hs : Us L (-1) s) (h32 : 32 ≤ s) (hg : Us L (-1) g) (h0 : L 0 g = s) {x : Int} (hx : Us L (-1) x) : ∀ j : Nat, (j : Int) ≤ L 2 s →
    drgT T Z (u s) (u g) d j 3 (u x) = if L 0 x = s ∧ L 1 x < j then exF T Z (u s) (u x) + (if x = g then d else if L 1 x = L 1 g + 1 then -d else 0) else T 3 (u x)
  | 0, _ => by
    rw [if_neg]
    · rfl
    · intro z
      have b := hx.1
      have := R.wf.mb.rng x (by omega) (by omega) (by have := hs.1; omega)
      omega
  | j + 1, hj => by
    have sb := hs.1
    have xb := hx.1
    have gb := hg.1
    obtain ⟨m1, m2, m3⟩ := mbrF_get R.wf.mb (h := s) (i := j) (by omega) (by omega)
    have ih := drgT_3 (Z := Z) (d := d) R hs h32 hg h0 hx j (by omega)
    have um := R.wf.usd (t := mbrF L s j) m1 (by omega)
    have ps := R.pos g hg (by omega)
    rw [drgT, R.kid hs h32 ⟨by omega, by omega⟩, up_e, ih]
    unfold drgV
    rw [R.kid hs h32 ⟨by omega, by omega⟩, ps]
    by_cases z : x = mbrF L s j
    · have e1 : L 1 x = j := by rw [z]; exact m3
      have e0 : L 0 x = s := by rw [z]; exact m2
      rw [if_pos (show (3 : Nat) = 3 ∧ u x = u (mbrF L s j) from ⟨rfl, by rw [z]⟩), if_pos (show L 0 x = s ∧ L 1 x < ((j + 1 : Nat) : Int) from ⟨e0, by omega⟩), ← z, e1]
      by_cases y : x = g
      · rw [if_pos y, if_pos (show u x = u g by rw [y])]
      · rw [if_neg y, if_neg (show ¬ u x = u g from fun e => y (R.inj x g hx hg e))]
    · have zu : ¬ u x = u (mbrF L s j) := fun e => z (R.inj x _ hx um e)
      rw [if_neg (show ¬ ((3 : Nat) = 3 ∧ u x = u (mbrF L s j)) from fun e => zu e.2)]
      by_cases y : L 0 x = s ∧ L 1 x < j
      · rw [if_pos y, if_pos (show L 0 x = s ∧ L 1 x < ((j + 1 : Nat) : Int) from ⟨y.1, by omega⟩)]
      · rw [if_neg y, if_neg (show ¬ (L 0 x = s ∧ L 1 x < ((j + 1 : Nat) : Int)) from ?_)]
        intro w
        have e1 : L 1 x = j := by omega
        exact z (R.wf.mb.inj x _ (by omega) (by omega) m1.1 m1.2 (by omega) (by omega) (by omega))
