/-! docking at a side of another pane -/
/-- the row behind a new split around a group's sign at i -/
theorem wl_rows (m : Mem) (w : Nat) {i kd b gr : Int} (hi : 0 ≤ i ∧ i < m w 3) (hb : b = 0 ∨ b = 1) {E : Mem} (hE : E = jP (jP (up (jP m w i kd (m (w + 1) (3 * i + 1)) (-1)) (w + 1) (3 * i + 4) 1) w (i + 1 + b) 1 1 gr) w (i + 3) 4 0 (-1)) :
    E w 3 = m w 3 + 3 ∧ (∀ (a : Nat) (j : Int), a ≠ w + 1 → (a ≠ w ∨ j ≠ 3) → E a j = m a j) ∧
    (∀ v r : Int, 0 ≤ v → v < m w 3 → 0 ≤ r → r ≤ 2 → E (w + 1) (3 * w3 i i b v + r) = if v = i ∧ r = 1 then 1 else m (w + 1) (3 * v + r)) ∧
    E (w + 1) (3 * i) = kd ∧ E (w + 1) (3 * i + 1) = m (w + 1) (3 * i + 1) ∧
    (E (w + 1) (3 * (if b = 0 then i + 1 else i + 2)) = 1 ∧ E (w + 1) (3 * (if b = 0 then i + 1 else i + 2) + 1) = 1 ∧ E (w + 1) (3 * (if b = 0 then i + 1 else i + 2) + 2) = gr) ∧ E (w + 1) (3 * (i + 3)) = 4 := by
  have A3 := jP_3 m w i kd (m (w + 1) (3 * i + 1)) (-1)
  have rA := jP_row m w i kd (m (w + 1) (3 * i + 1)) (-1)
  have xA := fun (a : Nat) (j : Int) (h : a ≠ w + 1 ∧ (a ≠ w ∨ j ≠ 3)) => jP_x m w i kd (m (w + 1) (3 * i + 1)) (-1) h
  generalize jP m w i kd (m (w + 1) (3 * i + 1)) (-1) = A at *
  have B3 : up A (w + 1) (3 * i + 4) 1 w 3 = A w 3 := by rw [up_e, if_neg (by omega)]
  have rB : ∀ j : Int, up A (w + 1) (3 * i + 4) 1 (w + 1) j = if j = 3 * i + 4 then 1 else A (w + 1) j := fun j => by
    rw [up_e]
    by_cases q : j = 3 * i + 4
    · rw [if_pos ⟨rfl, q⟩, if_pos q]
    · rw [if_neg (fun z => q z.2), if_neg q]
  have xB : ∀ (a : Nat) (j : Int), a ≠ w + 1 → up A (w + 1) (3 * i + 4) 1 a j = A a j := fun a j h => up_a _ _ _ _ h
  generalize up A (w + 1) (3 * i + 4) 1 = B at *
  have D3 := jP_3 B w (i + 1 + b) 1 1 gr
  have rD := jP_row B w (i + 1 + b) 1 1 gr
  have xD := fun (a : Nat) (j : Int) (h : a ≠ w + 1 ∧ (a ≠ w ∨ j ≠ 3)) => jP_x B w (i + 1 + b) 1 1 gr h
  generalize jP B w (i + 1 + b) 1 1 gr = D at *
  have E3 := jP_3 D w (i + 3) 4 0 (-1)
  have rE := jP_row D w (i + 3) 4 0 (-1)
  have xE := fun (a : Nat) (j : Int) (h : a ≠ w + 1 ∧ (a ≠ w ∨ j ≠ 3)) => jP_x D w (i + 3) 4 0 (-1) h
  rw [← hE] at E3 rE xE
  clear hE
  -- the rows, step by step
  have eLow : ∀ j : Int, j < 3 * (i + 3) → E (w + 1) j = D (w + 1) j := fun j h => by rw [rE, if_pos h]
  have eHi : ∀ j : Int, 3 * (i + 3) + 3 ≤ j → j < 3 * D w 3 + 3 → E (w + 1) j = D (w + 1) (j - 3) := fun j h h2 => by rw [rE, if_neg (by omega), if_neg (by omega), if_neg (by omega), if_neg (by omega), if_pos h2]
  have dLow : ∀ j : Int, j < 3 * (i + 1 + b) → D (w + 1) j = B (w + 1) j := fun j h => by rw [rD, if_pos h]
  have dHi : ∀ j : Int, 3 * (i + 1 + b) + 3 ≤ j → j < 3 * B w 3 + 3 → D (w + 1) j = B (w + 1) (j - 3) := fun j h h2 => by rw [rD, if_neg (by omega), if_neg (by omega), if_neg (by omega), if_neg (by omega), if_pos h2]
  have aLow : ∀ j : Int, j < 3 * i → A (w + 1) j = m (w + 1) j := fun j h => by rw [rA, if_pos h]
  have aHi : ∀ j : Int, 3 * i + 3 ≤ j → j < 3 * m w 3 + 3 → A (w + 1) j = m (w + 1) (j - 3) := fun j h h2 => by rw [rA, if_neg (by omega), if_neg (by omega), if_neg (by omega), if_neg (by omega), if_pos h2]
  refine ⟨by omega, fun a j h1 h2 => ?_, fun v r v1 v2 r1 r2 => ?_, ?_, ?_, ?_, ?_⟩
  · rw [xE a j ⟨h1, h2⟩, xD a j ⟨h1, h2⟩, xB a j h1, xA a j ⟨h1, h2⟩]
  · rcases w3_e i i b v with ⟨a, e⟩ | ⟨a, a2, e⟩ | ⟨a, a2, e⟩
    · rw [e, eLow _ (by omega), dLow _ (by omega), rB, if_neg (by omega), aLow _ (by omega), if_neg (by omega)]
    · have vi : v = i := by omega
      rw [e, eLow _ (by omega)]
      have d : D (w + 1) (3 * (v + 2 - b) + r) = B (w + 1) (3 * (i + 1) + r) := by
        rcases hb with q | q
        · rw [dHi _ (by omega) (by omega)]
          congr 1
          omega
        · rw [dLow _ (by omega)]
          congr 1
          omega
      rw [d, rB]
      by_cases z : r = 1
      · rw [if_pos (by omega), if_pos ⟨vi, z⟩]
      · rw [if_neg (by omega), if_neg (fun q => z q.2), aHi _ (by omega) (by omega)]
        congr 1
        omega
    · have vi : ¬ (v = i ∧ r = 1) := by omega
      rw [e, eHi _ (by omega) (by omega), dHi _ (by omega) (by omega), rB, if_neg (by omega), aHi _ (by omega) (by omega), if_neg vi]
      congr 1
      omega
  · rw [eLow _ (by omega), dLow _ (by omega), rB, if_neg (by omega), rA, if_neg (by omega), if_pos rfl]
  · rw [eLow _ (by omega), dLow _ (by omega), rB, if_neg (by omega), rA, if_neg (by omega), if_neg (by omega), if_pos rfl]
  · have gp : (if b = 0 then i + 1 else i + 2) = i + 1 + b := by rcases hb with q | q <;> rw [q] <;> simp <;> omega
    rw [gp, eLow _ (by omega), eLow _ (by omega), eLow _ (by omega), rD, rD, rD, if_neg (by omega), if_pos rfl, if_neg (by omega), if_neg (by omega), if_pos rfl, if_neg (by omega), if_neg (by omega), if_neg (by omega), if_pos rfl]
    exact ⟨rfl, rfl, rfl⟩
  · rw [rE, if_neg (by omega), if_pos rfl]
theorem dock_side {N : Int} {mu : Mem} {w : Nat} {L T : Mem} {P p t s : Int} (A : Lr mu w L P (-1)) (B : LR N L T P) (hN : 1000 ≤ N) (hP : 0 ≤ P ∧ P ≤ 5) (hp : 0 ≤ p ∧ p < P) (ht : 0 ≤ t ∧ t < P) (hpt : p ≠ t) (hs : 0 ≤ s ∧ s ≤ 3) (hst : L 0 t ≠ -1) (h48 : L 0 (L 0 t) ≠ 48) :
    ∃ mu' : Mem, jD mu w p t s mu' (dkF L p t s 2 (dkF L p t s 0 p)) ∧ Lr mu' w (dkF L p t s) P (-1) ∧ Fr mu mu' w := by
  have H := B.ly9 hP
  have m13 := A.m13 H
  obtain ⟨m1, hK, A1, f1⟩ := take_e A H hp (by omega)
  obtain ⟨t0, t48⟩ := tk_facts B hp (by omega)
  have B1 := (B.take hp (by omega) (by omega)).1
  have H1 := B1.ly9 hP
  have k13 := A1.m13 H1
  have p0 : tkF L p 0 p = -1 := by rw [t0 p hp.1 (by omega), if_pos rfl]
  have kp := k13.2.2 p hp.1 hp.2 p0
  have e0 : tkF L p 0 t = L 0 t := by rw [t0 t ht.1 (by omega), if_neg (fun q => hpt q.symm)]
  have b := H1.wf.pan t ht.1 (by omega)
  have eD : dkF L p t s = pbF (grpF (tkF L p) p) (unuF (tkF L p) 16 32) (tkF L p 0 t) s := by
    unfold dkF
    rw [if_neg (by omega), aL_0 ⟨ht.1, by omega⟩]
  have own := H1.wf.own t ht.1 (by omega) (by omega) (by omega)
  have g48 : tkF L p 0 (tkF L p 0 t) ≠ 48 := fun q => h48 (by
    have := (t48 (tkF L p 0 t) (by omega) (by omega) (by omega)).mp q
    rw [e0] at this
    exact this)
  rw [eD]
  clear eD t48 t0
  generalize tkF L p = L1 at *
  have lo := A1.low t ht.1 ht.2
  have ag := A1.grp t ht.1 ht.2
  rw [if_neg (by omega)] at ag
  obtain ⟨hg1, hg2, hg0, hfg, A2, f2⟩ := found_e A1 H1 hp p0 rfl
  obtain ⟨r0, r1, r2, r4, rk⟩ := grpF_rows H1.wf (p := p) ⟨hp.1, by omega⟩ ⟨hg1.1, by omega⟩ hg2
  obtain ⟨u, R⟩ := B1.rl
  have WM := (R.newG B1.fu (p := p) (k := 1) ⟨hp.1, by omega⟩ p0 (Or.inl rfl)).1.wf
  have rt := H1.wf.rootE (x := L1 0 t) ⟨⟨by omega, by omega⟩, Or.inl (by omega)⟩ g48
  have cn := H1.cnt
  have fs := H1.wf.freeS H1.fu rt (by omega) (M := grpF L1 p) (fun s s1 s2 => by rw [r2, if_neg (by omega)])
  have j3 := jF_x m1 w p (unuF L1 16 32 - 16) (show w ≠ w + 2 by omega) 3
  generalize unuF L1 16 32 = g at *
  have M0 : ∀ x : Int, 16 ≤ x → grpF L1 p 0 x = L1 0 x := fun x hx => by rw [r0, if_neg (by omega)]
  have M2 : ∀ x : Int, 32 ≤ x → grpF L1 p 2 x = L1 2 x := fun x hx => by rw [r2, if_neg (by omega)]
  have Mp : grpF L1 p 0 p = g := by rw [r0, if_pos rfl]
  have Mg : grpF L1 p 2 g = 1 := by rw [r2, if_pos rfl]
  have F1 := H1.fu
  have gM0 := M0 g (by omega)
  have hnT : Tn (grpF L1 p) (L1 0 t) := ⟨⟨by omega, by omega⟩, by rw [M0 _ (by omega)]; omega, by rw [M0 _ (by omega)]; exact g48⟩
  have FM : ∀ x : Int, Tn (grpF L1 p) x → 32 ≤ x → 2 ≤ grpF L1 p 2 x := fun x h h32 => by
    have a := M0 x (by omega)
    have h2 := h.2
    have := (F1 x (by omega) h.1.2).2 (by omega)
    rw [M2 x h32]
    omega
  have eN : jS (jF m1 w p (g - 16)) w (L1 0 t - 16) = jS (jF m1 w p (g - 16)) w (m1 (w + 2) (4 * t + 2)) := by rw [ag]
  obtain ⟨o, c, S⟩ := A2.sg
  have TM := WM.tw9
  have hl := TM.hol _ hnT
  have sn := S.sgn hnT (by omega)
  have lf := S.lef _ hnT (by omega)
  have rg := S.rng _ hnT
  have jd : ∀ (o' : Int) (mu' : Mem), UpP (jF m1 w p (g - 16) (w + 1)) (o (L1 0 t)) o' → jDs (jF m1 w p (g - 16)) w (o (L1 0 t)) o' (g - 16) s mu' → jD mu w p t s mu' 1 := fun o' mu' h1 h2 => by
    refine ⟨m1, hK, ⟨k13.1, by omega⟩, by omega, Or.inr ⟨by omega, rfl, g - 16, o', hfg, ?_⟩⟩
    rw [← eN, sn]
    exact ⟨rg.1, h1, h2⟩
  have ftr := f1.tr f2
  generalize jF m1 w p (g - 16) = m2 at *
  generalize eM : grpF L1 p = M at *
  generalize L1 0 t = nb at *
  have n0 : aL M 0 nb = M 0 nb := aL_0 ⟨by omega, by omega⟩
  have es : axF s = s / 2 ∧ bhF s = s % 2 := by unfold axF bhF; constructor <;> (split <;> omega)
  -- around the group
  have around : ∀ o' : Int, UpP (m2 (w + 1)) (o nb) o' → ¬ (0 ≤ o' ∧ m2 (w + 1) (3 * o') = 2 + s / 2) → pbF M g nb s = wrapF M nb g s → ∃ mu' : Mem, jD mu w p t s mu' (pbF M g nb s 2 (pbF M g nb s 0 p)) ∧ Lr mu' w (pbF M g nb s) P (-1) ∧ Fr mu mu' w := by
    intro o' hu hn eP
    obtain ⟨s1, s2, s3, -⟩ := fs
    obtain ⟨v0, v1, v2, -⟩ := wrapF_rows WM (side := s) rfl s1 (by rw [M2 _ s1.1]; exact s2) (by rw [M0 _ (by omega)]; exact s3) hg1.1 hnT.1 (x := nb) (by omega)
    have an : wrapF M nb g s 2 (wrapF M nb g s 0 p) = 1 := by
      rw [v0 p, if_neg (by omega), if_neg (by omega), if_neg (by omega), Mp, v2, if_neg (by omega), Mg]
    rw [eP, an]
    obtain ⟨w1, w2, w4, w5, w6, w7, w8⟩ := wl_rows m2 w (i := o nb) (kd := 2 + s / 2) (b := s % 2) (gr := g - 16) ⟨rg.1, by omega⟩ (by omega) rfl
    refine ⟨_, jd o' _ hu (Or.inr ⟨hn, rfl⟩), ?_, ftr.tr ((((((Fr.rf m2 w).jP _ _ _ _).up (Or.inl rfl)).jP _ _ _ _).jP _ _ _ _))⟩
    refine wrap_e A2 WM ⟨by omega, by omega⟩ (by omega) (by omega) S hnT hs rfl s1 (by rw [M2 _ s1.1]; exact s2) (by rw [M0 _ (by omega)]; exact s3) w1 w2 ?_ w5 (fun _ => w6) ?_ ?_
    · rw [lf.1]; exact w4
    · rw [lf.1]; exact w7
    · rw [lf.1]; exact w8
  by_cases root : M 0 nb = 47
  · refine around (-1) (S.upR hnT root) (by omega) ?_
    unfold pbF
    rw [n0, if_neg (by omega)]
  · have hx := TM.par nb hnT root
    have x32 : 32 ≤ M 0 nb := by omega
    have hu := S.upP TM (fun y h h32 => by have := FM y h h32; omega) (by omega) hnT root
    have sx := S.spl _ hx x32
    by_cases ax : M 5 (M 0 nb - 32) = s / 2
    · have mr := TM.mb.rng nb (by omega) (by omega) hnT.2.1
      have eP : pbF M g nb s = up (insF M g (M 0 nb) (M 1 nb + s % 2)) 3 g (M 3 nb) := by
        unfold pbF
        rw [n0, aL_5 ⟨by omega, by omega⟩, es.1, es.2, if_pos ⟨⟨x32, by omega⟩, ax⟩, aL_1 ⟨by omega, by omega⟩, aL_3 ⟨by omega, by omega⟩, pL_3 ⟨by omega, by omega⟩]
      have i0 := insF_0 (L := M) (t := g) (h := M 0 nb) (i := M 1 nb + s % 2) ⟨by omega, by omega⟩ ⟨by omega, by omega⟩ p
      have i2 := insF_2 (L := M) (t := g) (h := M 0 nb) (i := M 1 nb + s % 2) ⟨by omega, by omega⟩ ⟨by omega, by omega⟩ g
      have an : up (insF M g (M 0 nb) (M 1 nb + s % 2)) 3 g (M 3 nb) 2 (up (insF M g (M 0 nb) (M 1 nb + s % 2)) 3 g (M 3 nb) 0 p) = 1 := by
        rw [up_a _ _ _ _ (show (0 : Nat) ≠ 3 by omega), i0, if_neg (by omega), Mp, up_a _ _ _ _ (show (2 : Nat) ≠ 3 by omega), i2, if_neg (by omega), Mg]
      rw [eP, an]
      have wg := S.wgt nb hnT root
      have rx0 := S.rng _ hx
      have hp2 := put_e A2 TM ⟨by omega, by omega⟩ (by omega) (by omega) S hx x32 (i := M 1 nb + s % 2) (pt := o nb + s % 2) (wt := M 3 nb) ⟨by omega, by omega⟩ (by omega) (by
        by_cases q : s % 2 = 0
        · rw [if_pos (by omega), show M 1 nb + s % 2 = M 1 nb by omega, mbrF_hit TM.mb ⟨by omega, by omega⟩ rfl hnT.2.1]
          omega
        · by_cases z : M 1 nb + s % 2 < M 2 (M 0 nb)
          · rw [if_pos z]
            obtain ⟨z1, z2, z3, z4⟩ := Sg.kidO TM S hx x32 (M 1 nb + s % 2).toNat (by omega)
            rw [show (((M 1 nb + s % 2).toNat : Nat) : Int) = M 1 nb + s % 2 by omega] at z1 z2 z3 z4
            have := S.nxt nb _ hnT z2 root z3 (by omega)
            omega
          · rw [if_neg z]
            have := S.lst nb hnT root (by omega)
            omega)
      rw [← wg] at hp2
      rw [← wg]
      exact ⟨_, jd _ _ hu (Or.inl ⟨⟨rx0.1, by rw [sx.1]; omega⟩, rfl⟩), hp2, ftr.tr ((Fr.rf m2 w).jP _ _ _ _)⟩
    · refine around _ hu (fun q => ?_) ?_
      · rw [sx.1] at q
        omega
      · unfold pbF
        rw [n0, aL_5 ⟨by omega, by omega⟩, es.1, if_neg (fun q => ax q.2)]
