/-! docking at a side of the window -/
/-- the row behind a new split around all -/
theorem we_rows (m : Mem) (w : Nat) {kd b gr t : Int} (hn : 1 ≤ m w 3) (hb : (b = 0 ∧ t = 0) ∨ (b = 1 ∧ t = m w 3)) {E : Mem} (hE : E = jP (jP (jP (up m (w + 1) 1 1) w t 1 1 gr) w 0 kd 1 (-1)) w (m w 3 + 2) 4 0 (-1)) :
    E w 3 = m w 3 + 3 ∧ (∀ (a : Nat) (j : Int), a ≠ w + 1 → (a ≠ w ∨ j ≠ 3) → E a j = m a j) ∧
    (∀ v r : Int, 0 ≤ v → v < m w 3 → 0 ≤ r → r ≤ 2 → E (w + 1) (3 * w3 0 (m w 3 - 1) b v + r) = if v = 0 ∧ r = 1 then 1 else m (w + 1) (3 * v + r)) ∧
    E (w + 1) (3 * 0) = kd ∧
    (E (w + 1) (3 * (if b = 0 then 0 + 1 else m w 3 - 1 + 2)) = 1 ∧ E (w + 1) (3 * (if b = 0 then 0 + 1 else m w 3 - 1 + 2) + 1) = 1 ∧ E (w + 1) (3 * (if b = 0 then 0 + 1 else m w 3 - 1 + 2) + 2) = gr) ∧ E (w + 1) (3 * (m w 3 - 1 + 3)) = 4 := by
  have A3 : up m (w + 1) 1 1 w 3 = m w 3 := by rw [up_e, if_neg (by omega)]
  have rA : ∀ j : Int, up m (w + 1) 1 1 (w + 1) j = if j = 1 then 1 else m (w + 1) j := fun j => by
    rw [up_e]
    by_cases q : j = 1
    · rw [if_pos ⟨rfl, q⟩, if_pos q]
    · rw [if_neg (fun z => q z.2), if_neg q]
  have xA : ∀ (a : Nat) (j : Int), a ≠ w + 1 → up m (w + 1) 1 1 a j = m a j := fun a j h => up_a _ _ _ _ h
  generalize up m (w + 1) 1 1 = A at *
  have B3 := jP_3 A w t 1 1 gr
  have rB := jP_row A w t 1 1 gr
  have xB := fun (a : Nat) (j : Int) (h : a ≠ w + 1 ∧ (a ≠ w ∨ j ≠ 3)) => jP_x A w t 1 1 gr h
  generalize jP A w t 1 1 gr = B at *
  have D3 := jP_3 B w 0 kd 1 (-1)
  have rD := jP_row B w 0 kd 1 (-1)
  have xD := fun (a : Nat) (j : Int) (h : a ≠ w + 1 ∧ (a ≠ w ∨ j ≠ 3)) => jP_x B w 0 kd 1 (-1) h
  generalize jP B w 0 kd 1 (-1) = D at *
  have E3 := jP_3 D w (m w 3 + 2) 4 0 (-1)
  have rE := jP_row D w (m w 3 + 2) 4 0 (-1)
  have xE := fun (a : Nat) (j : Int) (h : a ≠ w + 1 ∧ (a ≠ w ∨ j ≠ 3)) => jP_x D w (m w 3 + 2) 4 0 (-1) h
  rw [← hE] at E3 rE xE
  clear hE
  have eLow : ∀ j : Int, j < 3 * (m w 3 + 2) → E (w + 1) j = D (w + 1) j := fun j h => by rw [rE, if_pos h]
  have dHi : ∀ j : Int, 3 ≤ j → j < 3 * B w 3 + 3 → D (w + 1) j = B (w + 1) (j - 3) := fun j h h2 => by rw [rD, if_neg (by omega), if_neg (by omega), if_neg (by omega), if_neg (by omega), if_pos h2]
  have bLow : ∀ j : Int, j < 3 * t → B (w + 1) j = A (w + 1) j := fun j h => by rw [rB, if_pos h]
  have bHi : ∀ j : Int, 3 * t + 3 ≤ j → j < 3 * A w 3 + 3 → B (w + 1) j = A (w + 1) (j - 3) := fun j h h2 => by rw [rB, if_neg (by omega), if_neg (by omega), if_neg (by omega), if_neg (by omega), if_pos h2]
  refine ⟨by omega, fun a j h1 h2 => ?_, fun v r v1 v2 r1 r2 => ?_, ?_, ?_, ?_⟩
  · rw [xE a j ⟨h1, h2⟩, xD a j ⟨h1, h2⟩, xB a j ⟨h1, h2⟩, xA a j h1]
  · have e := w3_e 0 (m w 3 - 1) b v
    have e2 : w3 0 (m w 3 - 1) b v = v + 2 - b := by omega
    rw [e2, eLow _ (by omega), dHi _ (by omega) (by omega)]
    have d : B (w + 1) (3 * (v + 2 - b) + r - 3) = A (w + 1) (3 * v + r) := by
      rcases hb with q | q
      · rw [bHi _ (by omega) (by omega)]
        congr 1
        omega
      · rw [bLow _ (by omega)]
        congr 1
        omega
    rw [d, rA]
    by_cases z : v = 0 ∧ r = 1
    · rw [if_pos z, if_pos (by omega)]
    · rw [if_neg z, if_neg (by omega)]
  · rw [eLow _ (by omega), rD, if_neg (by omega), if_pos rfl]
  · have gp : (if b = 0 then (0 : Int) + 1 else m w 3 - 1 + 2) = t + 1 := by
      rcases hb with q | q
      · rw [if_pos q.1]; omega
      · rw [if_neg (by omega)]; omega
    rw [gp, eLow _ (by omega), eLow _ (by omega), eLow _ (by omega), dHi _ (by omega) (by omega), dHi _ (by omega) (by omega), dHi _ (by omega) (by omega), show 3 * (t + 1) - 3 = 3 * t by omega, show 3 * (t + 1) + 1 - 3 = 3 * t + 1 by omega, show 3 * (t + 1) + 2 - 3 = 3 * t + 2 by omega,
      rB, rB, rB, if_neg (by omega), if_pos rfl, if_neg (by omega), if_neg (by omega), if_pos rfl, if_neg (by omega), if_neg (by omega), if_neg (by omega), if_pos rfl]
    exact ⟨rfl, rfl, rfl⟩
  · rw [show m w 3 - 1 + 3 = m w 3 + 2 by omega, rE, if_neg (by omega), if_pos rfl]
theorem edge_e {N : Int} {mu : Mem} {w : Nat} {L T : Mem} {P p s : Int} (A : Lr mu w L P (-1)) (B : LR N L T P) (hN : 1000 ≤ N) (hP : 0 ≤ P ∧ P ≤ 5) (hp : 0 ≤ p ∧ p < P) (hs : 0 ≤ s ∧ s ≤ 3) :
    ∃ mu' : Mem, jE mu w p s mu' ∧ Lr mu' w (dwF L p s) P (-1) ∧ Fr mu mu' w := by
  have H := B.ly9 hP
  have m13 := A.m13 H
  obtain ⟨m1, hK, A1, f1⟩ := take_e A H hp (by omega)
  obtain ⟨t0, -⟩ := tk_facts B hp (by omega)
  have B1 := (B.take hp (by omega) (by omega)).1
  have H1 := B1.ly9 hP
  have k13 := A1.m13 H1
  have p0 : tkF L p 0 p = -1 := by rw [t0 p hp.1 (by omega), if_pos rfl]
  have kp := k13.2.2 p hp.1 hp.2 p0
  have eD := dwF_e L p s (T := tkF L p) (M := grpF (tkF L p) p) (g := unuF (tkF L p) 16 32) rfl rfl rfl
  rw [eD]
  clear eD t0
  generalize tkF L p = L1 at *
  obtain ⟨hg1, hg2, hg0, hfg, A2, f2⟩ := found_e A1 H1 hp p0 rfl
  obtain ⟨r0, r1, r2, r4, rk⟩ := grpF_rows H1.wf (p := p) ⟨hp.1, by omega⟩ ⟨hg1.1, by omega⟩ hg2
  obtain ⟨u, R⟩ := B1.rl
  have WM := (R.newG B1.fu (p := p) (k := 1) ⟨hp.1, by omega⟩ p0 (Or.inl rfl)).1.wf
  have cn := H1.cnt
  have fs := fun rt => H1.wf.freeS H1.fu rt (by omega) (M := grpF L1 p) (fun s s1 s2 => by rw [r2, if_neg (by omega)])
  have j3 := jF_x m1 w p (unuF L1 16 32 - 16) (show w ≠ w + 2 by omega) 3
  generalize unuF L1 16 32 = g at *
  have M0 : ∀ x : Int, 16 ≤ x → grpF L1 p 0 x = L1 0 x := fun x hx => by rw [r0, if_neg (by omega)]
  have M2 : ∀ x : Int, 32 ≤ x → grpF L1 p 2 x = L1 2 x := fun x hx => by rw [r2, if_neg (by omega)]
  have F1 := H1.fu
  have gM0 := M0 g (by omega)
  have FM : ∀ x : Int, Tn (grpF L1 p) x → 32 ≤ x → 2 ≤ grpF L1 p 2 x := fun x h h32 => by
    have a := M0 x (by omega)
    have h2 := h.2
    have := (F1 x (by omega) h.1.2).2 (by omega)
    rw [M2 x h32]
    omega
  have win := H1.wf.win
  have nn := H1.wf.mb.nng 47 (by omega) (by omega)
  obtain ⟨o, c, S⟩ := A2.sg
  have TM := WM.tw9
  have je : ∀ mu' : Mem, jEs (jF m1 w p (g - 16)) w (g - 16) s mu' → jE mu w p s mu' := fun mu' h => ⟨m1, g - 16, hK, ⟨k13.1, by omega⟩, hfg, h⟩
  have ftr := f1.tr f2
  have m47 := M2 47 (by omega)
  generalize jF m1 w p (g - 16) = m2 at *
  generalize eM : grpF L1 p = M at *
  have es : axF s = s / 2 ∧ bhF s = s % 2 := by unfold axF bhF; constructor <;> (split <;> omega)
  by_cases r47 : M 2 47 = 0
  · -- the tree is empty
    have m0 := S.emp r47
    have nr : rtF M = -1 := mbrF_out TM.mb (by omega) (by omega)
    rw [if_pos nr]
    have i0 := fun y => insF_0 (L := M) (t := g) (h := 47) (i := 0) ⟨by omega, by omega⟩ ⟨by omega, by omega⟩ y
    have i1 := fun y => insF_1 (L := M) (t := g) (h := 47) (i := 0) ⟨by omega, by omega⟩ ⟨by omega, by omega⟩ y
    have i2 := fun y => insF_2 (L := M) (t := g) (h := 47) (i := 0) ⟨by omega, by omega⟩ ⟨by omega, by omega⟩ y
    have ik := fun k (hk : 3 ≤ k) y => insF_k (L := M) (t := g) (h := 47) (i := 0) (k := k) hk ⟨by omega, by omega⟩ ⟨by omega, by omega⟩ y
    refine ⟨_, je _ (Or.inl ⟨m0, rfl⟩), ?_, ftr.tr ((Fr.rf m2 w).jP _ _ _ _)⟩
    refine Lr_tree A2 ⟨fun _ => 0, fun _ => 0, ?_⟩ (fun a i h1 h2 => jP_x _ _ _ _ _ _ ⟨h1, h2⟩) (fun k h1 h2 => ?_) (fun k h1 h2 h3 => ?_) (fun v h1 h2 h3 => ?_) (fun i => ik 4 (by omega) i) ?_ (fun t h1 h2 h3 => ?_)
    · rw [jP_3, m0]
      exact S.one ⟨hg1.1, by omega⟩ r47 (fun y _ _ => i0 y) (by rw [i2, if_pos rfl]; omega) (fun y _ _ => ik 5 (by omega) y) (by rw [jP_row, if_neg (by omega), if_pos (by omega)]) (by rw [jP_row, if_neg (by omega), if_neg (by omega), if_neg (by omega), if_pos (by omega)])
    · rw [i0, if_neg (by omega)]
    · have := WM.pan k h1 (by omega)
      rw [i1, if_neg (by omega), if_neg (by omega)]
    · rw [i0] at h3
      by_cases z : v = g
      · exact Or.inr z
      · rw [if_neg z] at h3; exact Or.inl (by omega)
    · rw [i2, if_neg (by omega)]
    · rw [i0] at h3
      by_cases z : t = g
      · rw [if_pos z] at h3; omega
      · rw [if_neg z] at h3
        exact ⟨h3, by rw [i1, if_neg z, if_neg (by omega)]⟩
  · obtain ⟨z1, z2, z3⟩ := mbrF_get TM.mb (h := 47) (i := 0) ⟨by omega, by omega⟩ ⟨by omega, by omega⟩
    have er : rtF M = mbrF M 47 0 := rfl
    rw [er]
    generalize mbrF M 47 0 = r at *
    have hr := TM.mem r z1.1 z1.2 (by omega) (by omega)
    have ro := S.rot r hr z2
    have rr := S.rng r hr
    have m1' : m2 w 3 ≠ 0 := by omega
    rw [if_neg (by omega)]
    by_cases ax : (32 ≤ r ∧ r < 47) ∧ aL M 5 (r - 32) = axF s
    · rw [if_pos ax]
      have ax2 := ax.2
      rw [aL_5 ⟨by omega, by omega⟩, es.1] at ax2
      have sp := S.spl r hr ax.1.1
      have q0 : m2 (w + 1) 0 = 2 + s / 2 := by
        have := sp.1
        rw [ro.1] at this
        rw [show (0 : Int) = 3 * 0 by omega, this]
        omega
      obtain ⟨k1, k2, k3⟩ := S.kidP TM (fun y h h32 => by have := FM y h h32; omega) (by omega) hr ax.1.1
      rw [ro.1] at k1
      have n2 := FM r hr ax.1.1
      rw [aL_2 ⟨by omega, by omega⟩, es.2]
      -- the neighbour
      obtain ⟨n, hn⟩ : ∃ n : Nat, (n : Int) = if s % 2 = 1 then M 2 r - 1 else 0 := ⟨(if s % 2 = 1 then M 2 r - 1 else 0).toNat, by split <;> omega⟩
      rw [← hn]
      have hn2 : (n : Int) < M 2 r := by rw [hn]; split <;> omega
      obtain ⟨d1, d2, d3, d4⟩ := Sg.kidO TM S hr ax.1.1 n hn2
      have wg := S.wgt _ d2 (by omega)
      have kp : kpO M o c r (if s % 2 = 1 then ((M 2 r).toNat : Int) - 1 else 0) = o (mbrF M r n) := by
        have e : (if s % 2 = 1 then ((M 2 r).toNat : Int) - 1 else 0) = (n : Int) := by rw [hn]; split <;> omega
        rw [e]
        unfold kpO
        rw [if_pos hn2]
      have fo := S.fst (mbrF M r n) d2 (by omega)
      have lo := S.lst (mbrF M r n) d2 (by omega)
      rw [d3] at fo lo
      rw [d4] at fo lo
      generalize mbrF M r n = nb at *
      have nl := d2.1
      have eP : pbF M g nb s = up (insF M g r (n + s % 2)) 3 g (M 3 nb) := by
        unfold pbF
        rw [aL_0 ⟨by omega, by omega⟩, d3, if_pos ax, aL_1 ⟨by omega, by omega⟩, aL_3 ⟨by omega, by omega⟩, pL_3 ⟨by omega, by omega⟩, es.2, d4]
      rw [eP]
      have hp2 := put_e A2 TM ⟨by omega, by omega⟩ (by omega) (by omega) S hr ax.1.1 (i := n + s % 2) (pt := if s % 2 = 1 then m2 w 3 - 1 else 1) (wt := M 3 nb) ⟨by omega, by rw [hn]; split <;> omega⟩ (by omega) (by
        by_cases q : s % 2 = 1
        · rw [if_pos q] at hn ⊢
          rw [if_neg (by omega)]
          omega
        · rw [if_neg q] at hn ⊢
          rw [if_pos (by omega)]
          have f := fo (by omega)
          obtain ⟨y1, y2, y3, y4⟩ := Sg.kidO TM S hr ax.1.1 0 (by omega)
          have g9 := S.fst _ y2 (by omega) (by rw [y4]; rfl)
          rw [y3] at g9
          rw [show (n : Int) + s % 2 = ((0 : Nat) : Int) by omega]
          omega)
      refine ⟨_, je _ (Or.inr (Or.inl ⟨m1', q0, (M 2 r).toNat, kpO M o c r, k1, k2, by omega, rfl⟩)), ?_, ftr.tr ((Fr.rf m2 w).jP _ _ _ _)⟩
      rw [kp, wg]
      exact hp2
    · rw [if_neg ax]
      have rt1 : L1 2 47 = 1 := by omega
      obtain ⟨s1, s2, s3, -⟩ := fs rt1
      have q0 : m2 (w + 1) 0 ≠ 2 + s / 2 := by
        by_cases r32 : 32 ≤ r
        · have sp := S.spl r hr r32
          have hl := hr.1
          have a5 : M 5 (r - 32) ≠ s / 2 := fun q => ax ⟨⟨r32, hl.2⟩, by rw [aL_5 ⟨by omega, by omega⟩, es.1]; exact q⟩
          have := sp.1
          rw [ro.1] at this
          rw [show (0 : Int) = 3 * 0 by omega, this]
          omega
        · have lf := S.lef r hr (by omega)
          have := lf.2.1
          rw [ro.1] at this
          rw [show (0 : Int) = 3 * 0 by omega, this]
          omega
      obtain ⟨w1, w2, w4, w5, w7, w8⟩ := we_rows m2 w (kd := 2 + s / 2) (b := s % 2) (gr := g - 16) (t := if s % 2 = 1 then m2 w 3 else 0) (by omega) (by split <;> omega) rfl
      refine ⟨_, je _ (Or.inr (Or.inr ⟨m1', q0, rfl⟩)), ?_, ftr.tr ((((((Fr.rf m2 w).up (Or.inl rfl)).jP _ _ _ _).jP _ _ _ _).jP _ _ _ _))⟩
      refine wrap_e A2 WM ⟨by omega, by omega⟩ (by omega) (by omega) S hr hs rfl s1 (by rw [M2 _ s1.1]; exact s2) (by rw [M0 _ (by omega)]; exact s3) w1 w2 ?_ ?_ (fun q => absurd z2 q) ?_ ?_
      · rw [ro.1, ro.2]; exact w4
      · rw [ro.1]; exact w5
      · rw [ro.1, ro.2]; exact w7
      · rw [ro.2]; exact w8
