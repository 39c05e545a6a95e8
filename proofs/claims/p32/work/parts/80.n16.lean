/-! afloat, raised, moved, weighed -/
theorem Lr.mvm {mu mu' : Mem} {w : Nat} {L : Mem} {P q : Int} (A : Lr mu w L P q) (e : ∀ (a : Nat) (i : Int), w ≤ a → a ≤ w + 3 → mu' a i = mu a i) : Lr mu' w L P q := by
  refine Lr.mk ?_ ?_ (fun k h1 h2 => ?_) (fun k h1 h2 h3 => ?_) (fun x h1 h2 h3 => ?_) ?_ (fun t h1 h2 h3 => ?_) A.low
  · obtain ⟨o, c, S⟩ := A.sg
    rw [e w 3 (by omega) (by omega), show mu' (w + 1) = mu (w + 1) from funext fun i => e _ i (by omega) (by omega)]
    exact ⟨o, c, S⟩
  · rw [e _ _ (by omega) (by omega)]; exact A.np
  · rw [e _ _ (by omega) (by omega)]; exact A.grp k h1 h2
  · rw [e _ _ (by omega) (by omega)]; exact A.pla k h1 h2 h3
  · rw [e _ _ (by omega) (by omega)]; exact A.act x h1 h2 h3
  · rw [e _ _ (by omega) (by omega)]; exact A.flo
  · rw [e _ _ (by omega) (by omega)]; exact A.fli t h1 h2 h3
theorem Ly.op4 {L : Mem} {P p : Int} (H : Ly L P) (hp : 0 ≤ p ∧ p < P) (h : L 0 p = -1) : opN L ≤ 4 := by
  have p5 := H.p5
  have key : ∀ k : Nat, smG (fun t => if L 0 t = -1 then (0 : Int) else 1) (5 + k) ≤ 4 ∨ 16 < 5 + k := by
    intro k
    induction k with
    | zero =>
      have := smG_lt (fun t => if L 0 t = -1 then (0 : Int) else 1) p 5 (fun o _ _ => by show (if L 0 o = -1 then (0 : Int) else 1) ≤ 1; split <;> omega) ⟨hp.1, by omega⟩ (by show (if L 0 p = -1 then (0 : Int) else 1) ≤ 0; rw [if_pos h]; omega)
      left
      rw [Nat.add_zero]
      omega
    | succ k ih =>
      rcases ih with ih | ih
      · by_cases q : 5 + (k + 1) ≤ 16
        · left
          rw [show 5 + (k + 1) = (5 + k) + 1 by omega, smG]
          have c := H.cl ((5 + k : Nat) : Int) (by omega) (by omega)
          rw [if_pos c]
          omega
        · right; omega
      · right; omega
  have := key 11
  rw [show (5 + 11 : Nat) = 16 from rfl] at this
  unfold opN
  omega
theorem float_e {N : Int} {mu : Mem} {w : Nat} {L T : Mem} {P p : Int} (A : Lr mu w L P (-1)) (B : LR N L T P) (hN : 1000 ≤ N) (hP : 0 ≤ P ∧ P ≤ 5) (hp : 0 ≤ p ∧ p < P) :
    ∃ (m1 : Mem) (g : Int), jK mu w p m1 ∧ jFg m1 w g ∧ (0 ≤ m1 w 4 ∧ m1 w 4 ≤ 4) ∧ ∀ x y u v : Int, Lr (jB (jF m1 w p g) w g x y u v) w (flF L p x y u v) P (-1) ∧ Fr mu (jB (jF m1 w p g) w g x y u v) w ∧ flF L p x y u v 2 48 = m1 w 4 + 1 ∧ jB (jF m1 w p g) w g x y u v w 4 = m1 w 4 + 1 := by
  have H := B.ly9 hP
  have m13 := A.m13 H
  obtain ⟨m1, hK, A1, f1⟩ := take_e A H hp (by omega)
  obtain ⟨t0, -⟩ := tk_facts B hp (by omega)
  have B1 := (B.take hp (by omega) (by omega)).1
  have H1 := B1.ly9 hP
  have p0 : tkF L p 0 p = -1 := by rw [t0 p hp.1 (by omega), if_pos rfl]
  have op := H1.op4 hp p0
  have cn := H1.cnt
  have n47 := H1.wf.mb.nng 47 (by omega) (by omega)
  have n48 := H1.wf.mb.nng 48 (by omega) (by omega)
  have eD := fun x y u v => flF_e L p x y u v (T := tkF L p) (M := insF (grpF (tkF L p) p) (unuF (tkF L p) 16 32) 48 (aL (grpF (tkF L p) p) 2 48)) (g := unuF (tkF L p) 16 32) rfl rfl rfl
  clear t0
  generalize tkF L p = L1 at *
  obtain ⟨hg1, hg2, hg0, hfg, A2, f2⟩ := found_e A1 H1 hp p0 rfl
  obtain ⟨r0, r1, r2, r4, rk⟩ := grpF_rows H1.wf (p := p) ⟨hp.1, by omega⟩ ⟨hg1.1, by omega⟩ hg2
  obtain ⟨u0, R⟩ := B1.rl
  have WM := (R.newG B1.fu (p := p) (k := 1) ⟨hp.1, by omega⟩ p0 (Or.inl rfl)).1.wf
  have TM := WM.tw9
  have j4 := jF_x m1 w p (unuF L1 16 32 - 16) (show w ≠ w + 2 by omega) 4
  generalize unuF L1 16 32 = g at *
  have gM0 : grpF L1 p 0 g = -1 := by rw [r0, if_neg (by omega)]; exact hg0
  have c48 : grpF L1 p 2 48 = L1 2 48 := by rw [r2, if_neg (by omega)]
  have ftr := f1.tr f2
  have fl := A1.flo
  refine ⟨m1, g - 16, hK, hfg, by omega, fun x y u v => ?_⟩
  rw [eD]
  generalize jF m1 w p (g - 16) = m at *
  generalize grpF L1 p = M at *
  rw [aL_2 ⟨by omega, by omega⟩]
  have i0 := fun y => insF_0 (L := M) (t := g) (h := 48) (i := M 2 48) ⟨by omega, by omega⟩ ⟨by omega, by omega⟩ y
  have i1 := fun y => insF_1 (L := M) (t := g) (h := 48) (i := M 2 48) ⟨by omega, by omega⟩ ⟨by omega, by omega⟩ y
  have i2 := fun y => insF_2 (L := M) (t := g) (h := 48) (i := M 2 48) ⟨by omega, by omega⟩ ⟨by omega, by omega⟩ y
  have ik := fun k (hk : 3 ≤ k) y => insF_k (L := M) (t := g) (h := 48) (i := M 2 48) (k := k) hk ⟨by omega, by omega⟩ ⟨by omega, by omega⟩ y
  have i1' : ∀ z : Int, 0 ≤ z → z < 49 → insF M g 48 (M 2 48) 1 z = if z = g then M 2 48 else M 1 z := fun z z1 z2 => by
    rw [i1]
    by_cases a : z = g
    · rw [if_pos a, if_pos a]
    · rw [if_neg a, if_neg a, if_neg (fun q => by
        have := TM.mb.rng z z1 z2 (by omega)
        rw [q.2.1] at this
        omega)]
  have pp : ∀ (k : Nat) (z : Int), k < 6 → pL (pL (pL (pL (insF M g 48 (M 2 48)) 6 (2 * (g - 16) + 0) x) 6 (2 * (g - 16) + 1) y) 7 (2 * (g - 16) + 0) u) 7 (2 * (g - 16) + 1) v k z = insF M g 48 (M 2 48) k z := fun k z hk => by
    rw [pL_row (by omega), pL_row (by omega), pL_row (by omega), pL_row (by omega)]
  generalize pL (pL (pL (pL (insF M g 48 (M 2 48)) 6 (2 * (g - 16) + 0) x) 6 (2 * (g - 16) + 1) y) 7 (2 * (g - 16) + 0) u) 7 (2 * (g - 16) + 1) v = L' at *
  have fl2 := A2.flo
  have bx : ∀ (a : Nat) (i : Int), (a ≠ w + 3 ∧ (a ≠ w ∨ i ≠ 4)) → jB m w (g - 16) x y u v a i = m a i := fun a i q => by
    unfold jB
    rw [up_e, if_neg (by omega), up_e, if_neg (by omega), up_e, if_neg (by omega), up_e, if_neg (by omega), up_e, if_neg (by omega), up_e, if_neg (by omega)]
  have b4 : jB m w (g - 16) x y u v w 4 = m w 4 + 1 := by
    unfold jB
    rw [up_e, if_neg (by omega), up_e, if_neg (by omega), up_e, if_neg (by omega), up_e, if_neg (by omega), up_s]
  have bf : ∀ i : Int, i < 5 → jB m w (g - 16) x y u v (w + 3) i = if i = m w 4 then g - 16 else m (w + 3) i := fun i hi => by
    unfold jB
    rw [up_e, if_neg (by omega), up_e, if_neg (by omega), up_e, if_neg (by omega), up_e, if_neg (by omega), up_e, if_neg (by omega), up_e]
    by_cases q : i = m w 4
    · rw [if_pos ⟨rfl, q⟩, if_pos q]
    · rw [if_neg (fun z => q z.2), if_neg q]
  have fr' : Fr m (jB m w (g - 16) x y u v) w := by
    unfold jB
    exact (((((((Fr.rf m w).up (Or.inr (Or.inl rfl))).up (Or.inr (Or.inr (Or.inl ⟨rfl, by omega⟩)))).up (Or.inr (Or.inl rfl))).up (Or.inr (Or.inl rfl))).up (Or.inr (Or.inl rfl))).up (Or.inr (Or.inl rfl)))
  refine ⟨?_, ftr.tr fr', by rw [pp 2 48 (by omega), i2, if_pos rfl, c48, fl], by rw [b4, j4]⟩
  have n0 : ∀ z : Int, z ≠ g → L' 0 z = M 0 z := fun z hz => by rw [pp 0 z (by omega), i0, if_neg hz]
  refine Lr.mk ?_ ?_ (fun k h1 h2 => ?_) (fun k h1 h2 h3 => ?_) (fun z h1 h2 h3 => ?_) ?_ (fun t h1 h2 h3 => ?_) (fun k h1 h2 => ?_)
  · obtain ⟨o, c, S⟩ := A2.sg
    rw [bx w 3 (by omega), show jB m w (g - 16) x y u v (w + 1) = m (w + 1) from funext fun i => bx _ i (by omega)]
    refine ⟨o, c, S.cg (fun z => ?_) (fun z hz => n0 z (fun q => hz.2.1 (by rw [q]; exact gM0))) (fun z hz => ?_) (fun z h1 h2 => ?_) (fun z hz _ => ?_) (fun z _ _ => ?_) (fun _ _ _ => rfl) TM.hol⟩
    · constructor
      · intro hz
        by_cases q : z = g
        · have := hz.2.2
          rw [q, pp 0 g (by omega), i0, if_pos rfl] at this
          exact absurd rfl this
        · have a := n0 z q
          have := hz.2
          exact ⟨hz.1, by omega, by omega⟩
      · intro hz
        have q : z ≠ g := fun q => hz.2.1 (by rw [q]; exact gM0)
        have a := n0 z q
        have := hz.2
        exact ⟨hz.1, by omega, by omega⟩
    · have q : z ≠ g := fun q => hz.2.1 (by rw [q]; exact gM0)
      have := hz.1
      rw [pp 1 z (by omega), i1' z (by omega) (by omega), if_neg q]
    · rw [pp 2 z (by omega), i2, if_neg (by omega)]
    · rw [pp 3 z (by omega), ik 3 (by omega)]
    · rw [pp 5 z (by omega), ik 5 (by omega)]
  · rw [bx w 2 (by omega)]; exact A2.np
  · rw [bx _ _ (by omega), n0 k (by omega)]; exact A2.grp k h1 h2
  · rw [n0 k (by omega)] at h3
    rw [bx _ _ (by omega), pp 1 k (by omega), i1' k h1 (by omega), if_neg (by omega)]; exact A2.pla k h1 h2 h3
  · rw [bx _ _ (by omega), pp 4 _ (by omega), ik 4 (by omega)]
    refine A2.act z h1 h2 ?_
    by_cases q : z = g
    · exact Or.inr q
    · rw [n0 z q] at h3
      exact Or.inl (by omega)
  · rw [b4, pp 2 48 (by omega), i2, if_pos rfl, fl2]
  · by_cases q : t = g
    · rw [q, pp 1 g (by omega), i1' g (by omega) (by omega), if_pos rfl, bf _ (by omega), if_pos (by omega)]
    · rw [n0 t q] at h3
      have rt := TM.mb.rng t (by omega) (by omega) (by omega)
      rw [h3] at rt
      rw [pp 1 t (by omega), i1' t (by omega) (by omega), if_neg q, bf _ (by omega), if_neg (by omega)]
      exact A2.fli t h1 h2 h3
  · rw [n0 k (by omega)]; exact A2.low k h1 h2
theorem raise_e {mu : Mem} {w : Nat} {L : Mem} {P p g : Int} (A : Lr mu w L P (-1)) (H : Ly L P) (hp : 0 ≤ p ∧ p < P) (hg : L 0 p = g) (hg1 : 16 ≤ g ∧ g < 32) (h48 : L 0 g = 48) :
    mu (w + 2) (4 * p + 2) = g - 16 ∧ (0 ≤ L 1 g ∧ L 1 g < mu w 4 ∧ mu w 4 ≤ 5) ∧ mu (w + 3) (L 1 g) = g - 16 ∧ (∀ x : Int, 0 ≤ x → x < L 1 g → mu (w + 3) x ≠ g - 16) ∧ Lr (jRs mu w (L 1 g) (g - 16)) w (raF L g) P (-1) ∧ Fr mu (jRs mu w (L 1 g) (g - 16)) w := by
  have M := H.wf.mb
  have T := H.wf.tw9
  have cn := H.cnt
  have p5 := H.p5
  have n47 := M.nng 47 (by omega) (by omega)
  have gr := M.rng g (by omega) (by omega) (by omega)
  rw [h48] at gr
  have fl := A.flo
  have ap := A.grp p hp.1 hp.2
  rw [if_neg (by omega), hg] at ap
  obtain ⟨e0, e1, e2, ek, -⟩ := raF_rows H.wf (g := g) ⟨by omega, by omega⟩ h48
  refine ⟨ap, by omega, A.fli g (by omega) (by omega) h48, fun x x1 x2 e => ?_, ?_, ?_⟩
  · obtain ⟨t1, t2, t3⟩ := mbrF_get M (h := 48) (i := x) ⟨by omega, by omega⟩ ⟨x1, by omega⟩
    have tm := H.wf.mem t1 (by omega)
    have q := A.fli _ tm.1 tm.2 t2
    rw [t3, e] at q
    have : mbrF L 48 x = g := by omega
    rw [this] at t3
    omega
  · have bx : ∀ (a : Nat) (i : Int), a ≠ w + 3 → jRs mu w (L 1 g) (g - 16) a i = mu a i := fun a i h => by
      unfold jRs
      rw [up_a _ _ _ _ h, jR1_x _ _ _ _ h]
    have bf : ∀ i : Int, jRs mu w (L 1 g) (g - 16) (w + 3) i = if i = mu w 4 - 1 then g - 16 else if L 1 g ≤ i ∧ i < mu w 4 - 1 then mu (w + 3) (i + 1) else mu (w + 3) i := fun i => by
      unfold jRs
      rw [up_e]
      by_cases q : i = mu w 4 - 1
      · rw [if_pos ⟨rfl, q⟩, if_pos q]
      · rw [if_neg (fun z => q z.2), if_neg q]
        unfold jR1
        by_cases z : L 1 g ≤ i ∧ i < mu w 4 - 1
        · rw [if_pos ⟨rfl, z⟩, if_pos z]
        · rw [if_neg (fun y => z y.2), if_neg z]
    refine Lr.mk ?_ ?_ (fun k h1 h2 => ?_) (fun k h1 h2 h3 => ?_) (fun x h1 h2 h3 => ?_) ?_ (fun t h1 h2 h3 => ?_) (fun k h1 h2 => ?_)
    · obtain ⟨o, c, S⟩ := A.sg
      rw [bx w 3 (by omega), show jRs mu w (L 1 g) (g - 16) (w + 1) = mu (w + 1) from funext fun i => bx _ i (by omega)]
      refine ⟨o, c, S.cg (fun x => by unfold Tn; rw [e0]) (fun x _ => e0 x) (fun x hx => ?_) (fun x _ _ => e2 x) (fun x _ _ => ek 3 x (by omega)) (fun x _ _ => ek 5 x (by omega)) (fun _ _ _ => rfl) T.hol⟩
      have hl := hx.1
      rw [e1 x (by omega) (by omega), if_neg (fun q => hx.2.2 (by rw [q]; exact h48)), if_neg (fun q => hx.2.2 q.1)]
    · rw [bx _ _ (by omega)]; exact A.np
    · rw [bx _ _ (by omega), e0]; exact A.grp k h1 h2
    · rw [e0] at h3
      have := H.wf.pan k h1 (by omega)
      rw [bx _ _ (by omega), e1 k h1 (by omega), if_neg (by omega), if_neg (by omega)]; exact A.pla k h1 h2 h3
    · rw [e0] at h3
      rw [bx _ _ (by omega), ek 4 _ (by omega)]; exact A.act x h1 h2 h3
    · rw [bx _ _ (by omega), e2]; exact A.flo
    · rw [e0] at h3
      have q := A.fli t h1 h2 h3
      have rt := M.rng t (by omega) (by omega) (by omega)
      rw [h3] at rt
      rw [e1 t (by omega) (by omega)]
      by_cases z : t = g
      · rw [if_pos z, bf, if_pos (by omega), z]
      · have ne : L 1 t ≠ L 1 g := fun e => z (M.inj t g (by omega) (by omega) (by omega) (by omega) (by omega) (by omega) e)
        rw [if_neg z]
        by_cases y : L 1 g < L 1 t
        · rw [if_pos ⟨h3, y⟩, bf, if_neg (by omega), if_pos (by omega), show L 1 t - 1 + 1 = L 1 t by omega]
          exact q
        · rw [if_neg (fun x => y x.2), bf, if_neg (by omega), if_neg (by omega)]
          exact q
    · rw [e0]; exact A.low k h1 h2
  · refine Fr.mk (fun x j hx => ?_) ⟨?_, ?_, ?_⟩ (fun k h3 h4 => ⟨?_, ?_⟩) <;> (unfold jRs; rw [up_a _ _ _ _ (by omega), jR1_x _ _ _ _ (by omega)])
theorem move_e {mu : Mem} {w : Nat} {L : Mem} {P p i : Int} (A : Lr mu w L P (-1)) (H : Ly L P) (hp : 0 ≤ p ∧ p < P) (h : L 0 p ≠ -1) (hi : 0 ≤ i ∧ i < L 2 (L 0 p)) : Lr (jVs mu w p i) w (mvF L p i) P (-1) ∧ Fr mu (jVs mu w p i) w := by
  have M := H.wf.mb
  have T := H.wf.tw9
  have p5 := H.p5
  obtain ⟨e0, e1, e2, ek, -⟩ := mvF_rows H.wf (p := p) ⟨hp.1, by omega⟩ h hi
  have ap := A.grp p hp.1 hp.2
  rw [if_neg h] at ap
  have pp := A.pla p hp.1 hp.2 h
  have pw := H.wf.pan p hp.1 (by omega)
  have bx : ∀ (a : Nat) (j : Int), (a ≠ w + 2 ∨ j % 4 ≠ 3 ∨ 20 ≤ j) → jVs mu w p i a j = mu a j := fun a j q => by
    unfold jVs
    rw [up_e, if_neg (by omega), jV1_x _ _ _ _ _ (by have := A.np; omega)]
  refine ⟨?_, ?_⟩
  · refine Lr.mk ?_ ?_ (fun k h1 h2 => ?_) (fun k h1 h2 h3 => ?_) (fun x h1 h2 h3 => ?_) ?_ (fun t h1 h2 h3 => ?_) (fun k h1 h2 => ?_)
    · obtain ⟨o, c, S⟩ := A.sg
      rw [bx w 3 (by omega), show jVs mu w p i (w + 1) = mu (w + 1) from funext fun j => bx _ j (by omega)]
      refine ⟨o, c, S.cg (fun x => by unfold Tn; rw [e0]) (fun x _ => e0 x) (fun x hx => ?_) (fun x _ _ => e2 x) (fun x _ _ => ek 3 x (by omega)) (fun x _ _ => ek 5 x (by omega)) (fun _ _ _ => rfl) T.hol⟩
      have hl := hx.1
      have := T.hol x hx
      rw [e1 x (by omega) (by omega), if_neg (by omega), if_neg (by omega)]
    · rw [bx _ _ (by omega)]; exact A.np
    · rw [bx _ _ (by omega), e0]; exact A.grp k h1 h2
    · rw [e0] at h3
      have a := A.grp k h1 h2
      rw [if_neg h3] at a
      have b := A.pla k h1 h2 h3
      rw [e1 k h1 (by omega)]
      unfold jVs
      rw [up_e]
      by_cases z : k = p
      · rw [if_pos ⟨rfl, by omega⟩, if_pos z]
      · rw [if_neg (by omega), if_neg z]
        unfold jV1
        rw [show 4 * k + 3 - 1 = 4 * k + 2 by omega, a, ap, b, pp]
        have np := A.np
        by_cases y : L 0 k = L 0 p
        · have ne : L 1 k ≠ L 1 p := fun e => z (M.inj k p h1 (by omega) hp.1 (by omega) h3 y e)
          rw [if_pos ⟨rfl, ⟨by omega, by omega, by omega⟩, by omega, by omega⟩, if_pos y]
          unfold mvX
          by_cases c1 : L 1 p < L 1 k
          · rw [if_pos c1]
            by_cases c2 : L 1 k ≤ i
            · rw [if_pos ⟨c1, c2⟩, if_pos (by omega)]
            · rw [if_neg (fun q => c2 q.2), if_neg (by omega), if_neg (by omega)]
              omega
          · rw [if_neg c1, if_neg (fun q => c1 q.1)]
            by_cases c2 : i ≤ L 1 k
            · rw [if_pos ⟨by omega, c2⟩, if_neg (by omega)]
            · rw [if_neg (fun q => c2 q.2), if_pos (by omega)]
        · rw [if_neg (fun q => y (by omega)), if_neg y]
    · rw [e0] at h3
      rw [bx _ _ (by omega), ek 4 _ (by omega)]; exact A.act x h1 h2 h3
    · rw [bx _ _ (by omega), e2]; exact A.flo
    · rw [e0] at h3
      rw [bx _ _ (by omega), e1 t (by omega) (by omega), if_neg (by omega), if_neg (by omega)]
      exact A.fli t h1 h2 h3
    · rw [e0]; exact A.low k h1 h2
  · refine Fr.mk (fun x j hx => bx x j (by omega)) ⟨bx _ _ (by omega), bx _ _ (by omega), bx _ _ (by omega)⟩ (fun k h3 h4 => ⟨bx _ _ (by omega), bx _ _ (by omega)⟩)
theorem weigh_e {mu : Mem} {w : Nat} {L : Mem} {P g v : Int} {o c : Int → Int} (A : Lr mu w L P (-1)) (S : Sg L (mu w 3) (mu (w + 1)) o c) (hg : Tn L g) : Lr (up mu (w + 1) (3 * o g + 1) v) w (up L 3 g v) P (-1) ∧ Fr mu (up mu (w + 1) (3 * o g + 1) v) w := by
  have e : ∀ (k : Nat) (i : Int), k ≠ 3 → up L 3 g v k i = L k i := fun k i hk => up_a _ _ _ _ hk
  have tn : ∀ x : Int, Tn (up L 3 g v) x ↔ Tn L x := fun x => by unfold Tn; rw [e 0 _ (by omega)]
  have x0 : ∀ (j : Int), j ≠ 3 * o g + 1 → up mu (w + 1) (3 * o g + 1) v (w + 1) j = mu (w + 1) j := fun j h => by rw [up_e, if_neg (fun q => h q.2)]
  refine ⟨Lr_tree A ⟨o, c, ?_⟩ (fun a i h1 h2 => up_a _ _ _ _ h1) (fun k h1 h2 => e 0 k (by omega)) (fun k h1 h2 _ => e 1 k (by omega)) (fun x h1 h2 h3 => by rw [e 0 _ (by omega)] at h3; exact h3) (fun i => e 4 i (by omega)) (e 2 48 (by omega)) (fun t h1 h2 h3 => by rw [e 0 _ (by omega)] at h3; exact ⟨h3, e 1 t (by omega)⟩), (Fr.rf mu w).up (Or.inl rfl)⟩
  rw [up_a _ _ _ _ (show w ≠ w + 1 by omega)]
  refine Sg.mk (fun x h => S.rng x ((tn x).mp h)) (fun x h q => ?_) (fun x h q => ?_) (fun x h q => ?_) (fun x h q => ?_) (fun x h q z => ?_) (fun x u h hu q z f => ?_) (fun x h q z => ?_) (fun x u h hu q => S.inj x u ((tn x).mp h) ((tn u).mp hu) q) (fun x u h hu y32 u32 q => S.jnj x u ((tn x).mp h) ((tn u).mp hu) y32 u32 q) (fun j j1 j2 => ?_) (fun q => ?_) (fun x y1 y2 => ?_) S.nng
  · rw [e 0 _ (by omega)] at q
    exact S.rot x ((tn x).mp h) q
  · rw [x0 _ (by omega), x0 _ (by omega)]
    exact S.lef x ((tn x).mp h) q
  · rw [x0 _ (by omega), x0 _ (by omega), e 5 _ (by omega)]
    exact S.spl x ((tn x).mp h) q
  · rw [e 0 _ (by omega)] at q
    have h := (tn x).mp h
    rw [up_e, up_e]
    by_cases z : x = g
    · rw [if_pos ⟨rfl, by rw [z]⟩, if_pos ⟨rfl, z⟩]
    · rw [if_neg (fun y => z (S.inj x g h hg (by omega))), if_neg (fun y => z y.2)]
      exact S.wgt x h q
  · rw [e 0 _ (by omega)] at q ⊢
    rw [e 1 _ (by omega)] at z
    exact S.fst x ((tn x).mp h) q z
  · rw [e 0 _ (by omega)] at q
    rw [e 0 _ (by omega), e 0 _ (by omega)] at z
    rw [e 1 _ (by omega), e 1 _ (by omega)] at f
    exact S.nxt x u ((tn x).mp h) ((tn u).mp hu) q z f
  · rw [e 0 _ (by omega)] at q z ⊢
    rw [e 1 _ (by omega), e 2 _ (by omega)] at z
    exact S.lst x ((tn x).mp h) q z
  · obtain ⟨x, hx, hz⟩ := S.cov j j1 j2
    exact ⟨x, (tn x).mpr hx, hz⟩
  · rw [e 2 _ (by omega)] at q
    exact S.emp q
  · rw [e 5 _ (by omega)]
    exact S.axs x y1 y2
