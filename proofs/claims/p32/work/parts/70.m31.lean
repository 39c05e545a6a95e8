/-! boxes: all of the class's plan -/
theorem tgC_c {P P' L : Mem} {x : Int} (h6 : P' 6 (2 * x + L 5 (x - 32)) = P 6 (2 * x + L 5 (x - 32))) (h4 : ∀ i, P' 4 i = P 4 i) : tgC P' L x = tgC P L x := by
  have e : leC P' L x = leC P L x := by funext k; unfold leC VC; rw [h4]
  unfold tgC; rw [h6, e]
theorem BE.c {P P' L : Mem} {x : Int} (h : BE P L x) (h4 : ∀ i, P' 4 i = P 4 i) (ha : L 5 (x - 32) = 0 ∨ L 5 (x - 32) = 1) (hx : ∀ ax : Int, (ax = 0 ∨ ax = 1) → P' 5 (2 * x + ax) = P 5 (2 * x + ax) ∧ P' 6 (2 * x + ax) = P 6 (2 * x + ax) ∧ P' 7 x = P 7 x)
    (hk : ∀ k : Int, 0 ≤ k → k < L 2 x → ∀ ax : Int, (ax = 0 ∨ ax = 1) → P' 5 (2 * mbrF L x k + ax) = P 5 (2 * mbrF L x k + ax) ∧ P' 6 (2 * mbrF L x k + ax) = P 6 (2 * mbrF L x k + ax) ∧ P' 7 (mbrF L x k) = P 7 (mbrF L x k)) (h8 : P' 8 x = P 8 x) : BE P' L x := by
  have e : leC P' L x = leC P L x := by funext k; unfold leC VC; rw [h4]
  have o1 := hx (L 5 (x - 32)) ha
  have o2 := hx (1 - L 5 (x - 32)) (by omega)
  have es : shC P' L x = shC P L x := by unfold shC; rw [o1.2.1, e]
  refine ⟨fun k h1 h2 => ?_, by rw [h8, h.2, tgC_c o1.2.1 h4]⟩
  have a := h.1 k h1 h2
  have c1 := hk k h1 h2 (L 5 (x - 32)) ha
  have c2 := hk k h1 h2 (1 - L 5 (x - 32)) (by omega)
  rw [es, c1.1, c1.2.1, c2.1, c2.2.1, c1.2.2, o1.1, o2.1, o2.2.1, o1.2.2]
  exact a
/-- the members, as far as there are some -/
def MoW (P L : Mem) : Prop := ∀ h i : Int, 16 ≤ h → h < 49 → 0 ≤ i → i < L 2 h → P 1 ((h - 16) * 16 + i) = mbrF L h i
def Pl0 (L : Mem) (f : Int → Int) (w h : Int) (P : Mem) : Prop :=
  (MoW P L) ∧
  (Ord L P) ∧
  (∀ x : Int, InT L x → WE f L (VC P) x) ∧
  (Tp L w h P)
theorem Pl0.mt {L : Mem} {f : Int → Int} {w h : Int} {P : Mem} (h9 : Pl0 L f w h P) : MoW P L := h9.1
theorem Pl0.od {L : Mem} {f : Int → Int} {w h : Int} {P : Mem} (h9 : Pl0 L f w h P) : Ord L P := h9.2.1
theorem Pl0.we {L : Mem} {f : Int → Int} {w h : Int} {P : Mem} (h9 : Pl0 L f w h P) : ∀ x : Int, InT L x → WE f L (VC P) x := h9.2.2.1
theorem Pl0.tp {L : Mem} {f : Int → Int} {w h : Int} {P : Mem} (h9 : Pl0 L f w h P) : Tp L w h P := h9.2.2.2
theorem Pl0.mk {L : Mem} {f : Int → Int} {w h : Int} {P : Mem} (h_mt : MoW P L) (h_od : Ord L P) (h_we : ∀ x : Int, InT L x → WE f L (VC P) x) (h_tp : Tp L w h P) : Pl0 L f w h P := ⟨h_mt, h_od, h_we, h_tp⟩
/-- what the plan of a layout holds -/
def PlE (L : Mem) (f : Int → Int) (w h : Int) (r : Int → Nat) (P : Mem) : Prop :=
  (Pl0 L f w h P) ∧
  (∀ x : Int, InT L x → isZ x → BE P L x) ∧
  (∀ x : Int, InT L x → Bx P r x) ∧
  (P 0 11 = smG (fun k => if isZ (P 2 k) then tgC P L (P 2 k) else 0) (P 0 9).toNat) ∧
  (P 0 12 = smG (fun k => if isZ (P 2 k) then (L 2 (P 2 k) - 1) * P 6 (2 * P 2 k + (1 - L 5 (P 2 k - 32))) else 0) (P 0 9).toNat)
theorem PlE.p0 {L : Mem} {f : Int → Int} {w h : Int} {r : Int → Nat} {P : Mem} (h9 : PlE L f w h r P) : Pl0 L f w h P := h9.1
theorem PlE.be {L : Mem} {f : Int → Int} {w h : Int} {r : Int → Nat} {P : Mem} (h9 : PlE L f w h r P) : ∀ x : Int, InT L x → isZ x → BE P L x := h9.2.1
theorem PlE.bx {L : Mem} {f : Int → Int} {w h : Int} {r : Int → Nat} {P : Mem} (h9 : PlE L f w h r P) : ∀ x : Int, InT L x → Bx P r x := h9.2.2.1
theorem PlE.t11 {L : Mem} {f : Int → Int} {w h : Int} {r : Int → Nat} {P : Mem} (h9 : PlE L f w h r P) : P 0 11 = smG (fun k => if isZ (P 2 k) then tgC P L (P 2 k) else 0) (P 0 9).toNat := h9.2.2.2.1
theorem PlE.t12 {L : Mem} {f : Int → Int} {w h : Int} {r : Int → Nat} {P : Mem} (h9 : PlE L f w h r P) : P 0 12 = smG (fun k => if isZ (P 2 k) then (L 2 (P 2 k) - 1) * P 6 (2 * P 2 k + (1 - L 5 (P 2 k - 32))) else 0) (P 0 9).toNat := h9.2.2.2.2
theorem PlE.mk {L : Mem} {f : Int → Int} {w h : Int} {r : Int → Nat} {P : Mem} (h_p0 : Pl0 L f w h P) (h_be : ∀ x : Int, InT L x → isZ x → BE P L x) (h_bx : ∀ x : Int, InT L x → Bx P r x) (h_t11 : P 0 11 = smG (fun k => if isZ (P 2 k) then tgC P L (P 2 k) else 0) (P 0 9).toNat) (h_t12 : P 0 12 = smG (fun k => if isZ (P 2 k) then (L 2 (P 2 k) - 1) * P 6 (2 * P 2 k + (1 - L 5 (P 2 k - 32))) else 0) (P 0 9).toNat) : PlE L f w h r P := ⟨h_p0, h_be, h_bx, h_t11, h_t12⟩
def WkI (L : Mem) (f : Int → Int) (w h : Int) (r : Int → Nat) (P Q : Mem) (j : Nat) : Prop :=
  (Pl0 L f w h Q) ∧
  (∀ (k : Nat) (i : Int), (1 ≤ k ∧ k ≤ 4) ∨ (k = 0 ∧ (i = 9 ∨ i = 10)) → Q k i = P k i) ∧
  (∀ k : Int, 0 ≤ k → k < j → isZ (P 2 k) → BE Q L (P 2 k)) ∧
  (∀ x : Int, InT L x → (L 0 x = 47 ∨ ∃ l : Int, 0 ≤ l ∧ l < j ∧ P 2 l = L 0 x) → Bx Q r x) ∧
  (Q 0 11 = smG (fun k => if isZ (P 2 k) then tgC Q L (P 2 k) else 0) j) ∧
  (Q 0 12 = smG (fun k => if isZ (P 2 k) then (L 2 (P 2 k) - 1) * Q 6 (2 * P 2 k + (1 - L 5 (P 2 k - 32))) else 0) j)
theorem WkI.p0 {L : Mem} {f : Int → Int} {w h : Int} {r : Int → Nat} {P Q : Mem} {j : Nat} (h9 : WkI L f w h r P Q j) : Pl0 L f w h Q := h9.1
theorem WkI.kp {L : Mem} {f : Int → Int} {w h : Int} {r : Int → Nat} {P Q : Mem} {j : Nat} (h9 : WkI L f w h r P Q j) : ∀ (k : Nat) (i : Int), (1 ≤ k ∧ k ≤ 4) ∨ (k = 0 ∧ (i = 9 ∨ i = 10)) → Q k i = P k i := h9.2.1
theorem WkI.be {L : Mem} {f : Int → Int} {w h : Int} {r : Int → Nat} {P Q : Mem} {j : Nat} (h9 : WkI L f w h r P Q j) : ∀ k : Int, 0 ≤ k → k < j → isZ (P 2 k) → BE Q L (P 2 k) := h9.2.2.1
theorem WkI.bx {L : Mem} {f : Int → Int} {w h : Int} {r : Int → Nat} {P Q : Mem} {j : Nat} (h9 : WkI L f w h r P Q j) : ∀ x : Int, InT L x → (L 0 x = 47 ∨ ∃ l : Int, 0 ≤ l ∧ l < j ∧ P 2 l = L 0 x) → Bx Q r x := h9.2.2.2.1
theorem WkI.t11 {L : Mem} {f : Int → Int} {w h : Int} {r : Int → Nat} {P Q : Mem} {j : Nat} (h9 : WkI L f w h r P Q j) : Q 0 11 = smG (fun k => if isZ (P 2 k) then tgC Q L (P 2 k) else 0) j := h9.2.2.2.2.1
theorem WkI.t12 {L : Mem} {f : Int → Int} {w h : Int} {r : Int → Nat} {P Q : Mem} {j : Nat} (h9 : WkI L f w h r P Q j) : Q 0 12 = smG (fun k => if isZ (P 2 k) then (L 2 (P 2 k) - 1) * Q 6 (2 * P 2 k + (1 - L 5 (P 2 k - 32))) else 0) j := h9.2.2.2.2.2
theorem WkI.mk {L : Mem} {f : Int → Int} {w h : Int} {r : Int → Nat} {P Q : Mem} {j : Nat} (h_p0 : Pl0 L f w h Q) (h_kp : ∀ (k : Nat) (i : Int), (1 ≤ k ∧ k ≤ 4) ∨ (k = 0 ∧ (i = 9 ∨ i = 10)) → Q k i = P k i) (h_be : ∀ k : Int, 0 ≤ k → k < j → isZ (P 2 k) → BE Q L (P 2 k)) (h_bx : ∀ x : Int, InT L x → (L 0 x = 47 ∨ ∃ l : Int, 0 ≤ l ∧ l < j ∧ P 2 l = L 0 x) → Bx Q r x) (h_t11 : Q 0 11 = smG (fun k => if isZ (P 2 k) then tgC Q L (P 2 k) else 0) j) (h_t12 : Q 0 12 = smG (fun k => if isZ (P 2 k) then (L 2 (P 2 k) - 1) * Q 6 (2 * P 2 k + (1 - L 5 (P 2 k - 32))) else 0) j) : WkI L f w h r P Q j := ⟨h_p0, h_kp, h_be, h_bx, h_t11, h_t12⟩
theorem wkG_e {P L : Mem} {f : Int → Int} {w h : Int} (W : Wf L (-1)) (F : Fu L) (hf : LeB f) (hl : LeL f L) (hV : Vl L) {r : Int → Nat} (hb : ∀ x : Int, r x ≤ 16) (hr : ∀ t : Int, 16 ≤ t → t < 47 → 32 ≤ L 0 t → L 0 t < 47 → r t < r (L 0 t))
    (hw : 0 ≤ w ∧ w ≤ 400) (hh : 0 ≤ h ∧ h ≤ 400) (P0 : Pl0 L f w h P) (hM : MoT P L) (h11 : P 0 11 = 0) (h12 : P 0 12 = 0) : ∀ j : Nat, (j : Int) ≤ P 0 9 → WkI L f w h r P (wkG P L j) j
  | 0, _ => by
    refine ⟨P0, fun _ _ _ => rfl, fun k h1 h2 => by omega, fun x hx hp => ?_, h11, h12⟩
    rcases hp with e | ⟨l, l1, l2, -⟩
    · obtain ⟨a1, a2, a3, a4, a5⟩ := P0.tp.roo x hx e
      have rx := hb x
      refine ⟨fun ax ha => ?_, ?_⟩
      · rcases ha with rfl | rfl
        · show (0 ≤ P 5 (2 * x + 0) ∧ P 5 (2 * x + 0) ≤ 600 * (17 - (r x : Int))) ∧ 0 ≤ P 6 (2 * x + 0) ∧ P 6 (2 * x + 0) ≤ 400
          rw [a1, a3]; omega
        · show (0 ≤ P 5 (2 * x + 1) ∧ P 5 (2 * x + 1) ≤ 600 * (17 - (r x : Int))) ∧ 0 ≤ P 6 (2 * x + 1) ∧ P 6 (2 * x + 1) ≤ 400
          rw [a2, a4]; omega
      · show 0 ≤ P 7 x ∧ P 7 x ≤ 17 - (r x : Int)
        rw [a5]; omega
    · omega
  | j + 1, hj => by
    have I := wkG_e W F hf hl hV hb hr hw hh P0 hM h11 h12 j (by omega)
    have O := P0.od
    have n0 := O.n0
    have hx := O.rng j (by omega) (by omega)
    have b := hx.rg
    have c16 : ∀ {h : Int}, (16 ≤ h ∧ h < 49) → L 2 h ≤ 16 := fun hh => W.cnt16 F hh
    have kpx := I.kp
    rw [wkG]
    generalize wkG P L j = Q at *
    have g2 : gK Q 2 31 j = P 2 j := by rw [gK_in ⟨by omega, by omega⟩ (by decide), kpx 2 _ (by omega)]
    rw [g2]
    -- the parent is placed ahead
    have hB : Bx Q r (P 2 j) := by
      refine I.bx _ hx ?_
      rcases hx.hol W with e | s
      · exact Or.inl e
      · right
        by_cases j0 : j = 0
        · subst j0
          obtain ⟨q8, q9⟩ := O.root (by omega)
          have m := (mbrF_get W.mb (h := 47) (i := 0) ⟨by omega, by omega⟩ ⟨by omega, by omega⟩).2.1
          rw [← q9] at m
          have s : isZ (L 0 (P 2 0)) := s
          rw [m] at s
          exact absurd s (by unfold isZ; omega)
        · obtain ⟨-, l, l1, l2, l3⟩ := O.par j (by omega) (by omega)
          exact ⟨l, l1, l2, l3⟩
    -- a node ahead is no child of this one
    have nokid : ∀ k : Int, 0 ≤ k → k < j → L 0 (P 2 k) ≠ P 2 j := by
      intro k h1 h2 e
      by_cases k0 : k = 0
      · subst k0
        obtain ⟨q8, q9⟩ := O.root (by omega)
        have m := (mbrF_get W.mb (h := 47) (i := 0) ⟨by omega, by omega⟩ ⟨by omega, by omega⟩).2.1
        rw [← q9] at m
        omega
      · obtain ⟨-, l, l1, l2, l3⟩ := O.par k (by omega) (by omega)
        have := O.inj l j l1 (by omega) (by omega) (by omega) (by rw [l3, e])
        omega
    have sj : ∀ (g : Int → Int), smG g (j + 1) = smG g j + g j := fun g => rfl
    by_cases z : isZ (P 2 j)
    · have tb : ∀ y, 0 ≤ tgC Q L y ∧ tgC Q L y ≤ 1 := fun y => by unfold tgC; split <;> omega
      have q11 : 0 ≤ Q 0 11 ∧ Q 0 11 ≤ 100 := by
        have e1 := smG_ge (fun k => if isZ (P 2 k) then tgC Q L (P 2 k) else 0) 0 j (fun k _ _ => by have := tb (P 2 k); show 0 ≤ (if isZ (P 2 k) then tgC Q L (P 2 k) else 0); split <;> omega)
        have e2 := smG_le (fun k => if isZ (P 2 k) then tgC Q L (P 2 k) else 0) 1 j (fun k _ _ => by have := tb (P 2 k); show (if isZ (P 2 k) then tgC Q L (P 2 k) else 0) ≤ 1; split <;> omega)
        rw [I.t11]; omega
      have q12 : 0 ≤ Q 0 12 ∧ Q 0 12 ≤ 1000000 := by
        have el : ∀ k : Int, 0 ≤ k → k < j → 0 ≤ (if isZ (P 2 k) then (L 2 (P 2 k) - 1) * Q 6 (2 * P 2 k + (1 - L 5 (P 2 k - 32))) else 0) ∧ (if isZ (P 2 k) then (L 2 (P 2 k) - 1) * Q 6 (2 * P 2 k + (1 - L 5 (P 2 k - 32))) else 0) ≤ 6400 := by
          intro k h1 h2
          by_cases y : isZ (P 2 k)
          · rw [if_pos y]
            have hk := O.rng k h1 (by omega)
            have x0 : L 0 (P 2 k) ≠ -1 := by have q1 := hk.1.2; have q2 := hk.rg; omega
            have f2 := ((F _ hk.rg.1 hk.rg.2).2 x0).2 y.1
            have cc := c16 (h := P 2 k) ⟨by have := hk.rg; omega, by have := hk.rg; omega⟩
            have axs := W.axs _ y.1 y.2
            have bk : Bx Q r (P 2 k) := by
              refine I.bx _ hk ?_
              rcases hk.hol W with e | s
              · exact Or.inl e
              · by_cases k0 : k = 0
                · subst k0
                  obtain ⟨q8, q9⟩ := O.root (by omega)
                  have m := (mbrF_get W.mb (h := 47) (i := 0) ⟨by omega, by omega⟩ ⟨by omega, by omega⟩).2.1
                  rw [← q9] at m
                  exact Or.inl m
                · obtain ⟨-, l, l1, l2, l3⟩ := O.par k (by omega) (by omega)
                  exact Or.inr ⟨l, l1, by omega, l3⟩
            have sz := (bk.1 (1 - L 5 (P 2 k - 32)) (by omega)).2
            exact ⟨Int.mul_nonneg (by omega) sz.1, Int.le_trans (Int.mul_le_mul (show L 2 (P 2 k) - 1 ≤ 16 by omega) sz.2 sz.1 (by omega)) (by omega)⟩
          · rw [if_neg y]; omega
        have e1 := smG_ge _ 0 j (fun k h1 h2 => (el k h1 h2).1)
        have e2 := smG_le _ 6400 j (fun k h1 h2 => (el k h1 h2).2)
        rw [I.t12]; omega
      obtain ⟨s1, s2, s3, s4, s5, s6, s7⟩ := wkS_e W F hf hl hV (fun h i a c d e => by rw [I.kp 1 _ (by omega)]; exact hM h i a c d e) I.p0.we hb hr hx z hB q11 q12
      generalize wkS L Q (P 2 j) = X at *
      have x4 : ∀ i, X 4 i = Q 4 i := fun i => s7 4 i (by omega)
      have kidh : ∀ k : Int, 0 ≤ k → k < L 2 (P 2 j) → L 0 (mbrF L (P 2 j) k) = P 2 j := fun k h1 h2 => (mbrF_get W.mb (h := P 2 j) ⟨by omega, by omega⟩ ⟨h1, h2⟩).2.1
      have far : ∀ y ax : Int, (ax = 0 ∨ ax = 1) → L 0 y ≠ P 2 j → X 5 (2 * y + ax) = Q 5 (2 * y + ax) ∧ X 6 (2 * y + ax) = Q 6 (2 * y + ax) ∧ X 7 y = Q 7 y := fun y ax ha hy => s3 y ax ha (fun k h1 h2 e => hy (by rw [e]; exact kidh k h1 h2))
      have eV : VC X = VC Q := by funext y ax; unfold VC; rw [x4]
      first | with_reducible refine WkI.mk ?_ ?_ ?_ ?_ ?_ ?_ | with_reducible refine PlE.mk ?_ ?_ ?_ ?_ ?_ | with_reducible refine Pl0.mk ?_ ?_ ?_ ?_ | with_reducible refine Tp.mk ?_ ?_ | with_reducible refine Vl.mk ?_ ?_ | with_reducible refine Lk.mk ?_ | with_reducible refine RfQ.mk ?_ ?_ ?_ ?_ | with_reducible refine ShQ.mk ?_ ?_ ?_ ?_ | with_reducible refine Que.mk ?_ ?_ ?_ ?_ ?_ ?_ ?_ ?_ | with_reducible refine QuI.mk ?_ ?_ ?_ ?_ ?_ ?_ | with_reducible refine Ord.mk ?_ ?_ ?_ ?_ ?_ ?_ ?_ ?_ ?_ ?_ | with_reducible refine LnI.mk ?_ ?_ ?_ ?_ ?_ ?_ ?_ ?_ ?_ ?_ ?_ ?_ ?_ ?_ ?_ ?_ ?_ | with_reducible refine Rl.mk ?_ ?_ ?_ ?_ ?_ ?_ ?_ ?_ ?_ ?_ ?_ ?_ ?_ | with_reducible refine Wf.mk ?_ ?_ ?_ ?_ ?_ ?_ ?_ ?_ ?_ ?_ ?_ | with_reducible refine Mb.mk ?_ ?_ ?_ ?_ ?_ | constructor
      · first | with_reducible refine WkI.mk ?_ ?_ ?_ ?_ ?_ ?_ | with_reducible refine PlE.mk ?_ ?_ ?_ ?_ ?_ | with_reducible refine Pl0.mk ?_ ?_ ?_ ?_ | with_reducible refine Tp.mk ?_ ?_ | with_reducible refine Vl.mk ?_ ?_ | with_reducible refine Lk.mk ?_ | with_reducible refine RfQ.mk ?_ ?_ ?_ ?_ | with_reducible refine ShQ.mk ?_ ?_ ?_ ?_ | with_reducible refine Que.mk ?_ ?_ ?_ ?_ ?_ ?_ ?_ ?_ | with_reducible refine QuI.mk ?_ ?_ ?_ ?_ ?_ ?_ | with_reducible refine Ord.mk ?_ ?_ ?_ ?_ ?_ ?_ ?_ ?_ ?_ ?_ | with_reducible refine LnI.mk ?_ ?_ ?_ ?_ ?_ ?_ ?_ ?_ ?_ ?_ ?_ ?_ ?_ ?_ ?_ ?_ ?_ | with_reducible refine Rl.mk ?_ ?_ ?_ ?_ ?_ ?_ ?_ ?_ ?_ ?_ ?_ ?_ ?_ | with_reducible refine Wf.mk ?_ ?_ ?_ ?_ ?_ ?_ ?_ ?_ ?_ ?_ ?_ | with_reducible refine Mb.mk ?_ ?_ ?_ ?_ ?_ | constructor
        · intro h i a c d e; rw [s7 1 _ (by omega)]; exact I.p0.mt h i a c d e
        · have o := I.p0.od
          obtain ⟨o1, o2, o3, o4, o5, o6, o7, o8, o9, o10⟩ := o
          have x2 : ∀ i, X 2 i = Q 2 i := fun i => s7 2 i (by omega)
          have x9 : X 0 9 = Q 0 9 := s7 0 9 (by omega)
          have x10 : X 0 10 = Q 0 10 := s7 0 10 (by omega)
          (first | with_reducible refine WkI.mk ?_ ?_ ?_ ?_ ?_ ?_ | with_reducible refine PlE.mk ?_ ?_ ?_ ?_ ?_ | with_reducible refine Pl0.mk ?_ ?_ ?_ ?_ | with_reducible refine Tp.mk ?_ ?_ | with_reducible refine Vl.mk ?_ ?_ | with_reducible refine Lk.mk ?_ | with_reducible refine RfQ.mk ?_ ?_ ?_ ?_ | with_reducible refine ShQ.mk ?_ ?_ ?_ ?_ | with_reducible refine Que.mk ?_ ?_ ?_ ?_ ?_ ?_ ?_ ?_ | with_reducible refine QuI.mk ?_ ?_ ?_ ?_ ?_ ?_ | with_reducible refine Ord.mk ?_ ?_ ?_ ?_ ?_ ?_ ?_ ?_ ?_ ?_ | with_reducible refine LnI.mk ?_ ?_ ?_ ?_ ?_ ?_ ?_ ?_ ?_ ?_ ?_ ?_ ?_ ?_ ?_ ?_ ?_ | with_reducible refine Rl.mk ?_ ?_ ?_ ?_ ?_ ?_ ?_ ?_ ?_ ?_ ?_ ?_ ?_ | with_reducible refine Wf.mk ?_ ?_ ?_ ?_ ?_ ?_ ?_ ?_ ?_ ?_ ?_ | with_reducible refine Mb.mk ?_ ?_ ?_ ?_ ?_ | constructor) <;> simpa only [x2, x9, x10]
        · intro y hy; rw [eV]; exact I.p0.we y hy
        · first | with_reducible refine WkI.mk ?_ ?_ ?_ ?_ ?_ ?_ | with_reducible refine PlE.mk ?_ ?_ ?_ ?_ ?_ | with_reducible refine Pl0.mk ?_ ?_ ?_ ?_ | with_reducible refine Tp.mk ?_ ?_ | with_reducible refine Vl.mk ?_ ?_ | with_reducible refine Lk.mk ?_ | with_reducible refine RfQ.mk ?_ ?_ ?_ ?_ | with_reducible refine ShQ.mk ?_ ?_ ?_ ?_ | with_reducible refine Que.mk ?_ ?_ ?_ ?_ ?_ ?_ ?_ ?_ | with_reducible refine QuI.mk ?_ ?_ ?_ ?_ ?_ ?_ | with_reducible refine Ord.mk ?_ ?_ ?_ ?_ ?_ ?_ ?_ ?_ ?_ ?_ | with_reducible refine LnI.mk ?_ ?_ ?_ ?_ ?_ ?_ ?_ ?_ ?_ ?_ ?_ ?_ ?_ ?_ ?_ ?_ ?_ | with_reducible refine Rl.mk ?_ ?_ ?_ ?_ ?_ ?_ ?_ ?_ ?_ ?_ ?_ ?_ ?_ | with_reducible refine Wf.mk ?_ ?_ ?_ ?_ ?_ ?_ ?_ ?_ ?_ ?_ ?_ | with_reducible refine Mb.mk ?_ ?_ ?_ ?_ ?_ | constructor
          · intro g ax g1 g2 g3 ha
            have := far g ax ha (by rw [g3]; omega)
            rw [this.1, this.2.1, this.2.2]
            exact I.p0.tp.flo g ax g1 g2 g3 ha
          · intro y hy e
            have a := far y 0 (Or.inl rfl) (by rw [e]; omega)
            have c := far y 1 (Or.inr rfl) (by rw [e]; omega)
            rw [a.1, a.2.1, a.2.2, c.1, c.2.1]
            exact I.p0.tp.roo y hy e
      · intro k i hk; rw [s7 k i hk, I.kp k i hk]
      · intro k h1 h2 hz
        by_cases y : k = j
        · rw [y]; exact s1
        · have hk := O.rng k h1 (by omega)
          have nk := nokid k h1 (by omega)
          refine (I.be k h1 (by omega) hz).c x4 (W.axs _ hz.1 hz.2) (fun ax ha => far _ ax ha nk) (fun l l1 l2 ax ha => far _ ax ha ?_) (s4 _ (fun e => y (O.inj k j h1 (by omega) (by omega) (by omega) e)))
          intro e
          have hl9 := (mbrF_get W.mb (h := P 2 k) (i := l) ⟨by have := hk.rg; omega, by have := hk.rg; omega⟩ ⟨l1, l2⟩).2.1
          rw [hl9] at e
          exact y (O.inj k j h1 (by omega) (by omega) (by omega) e)
      · intro y hy hp
        by_cases e : L 0 y = P 2 j
        · have rg := W.mb.rng y (by have := hy.rg; omega) (by have := hy.rg; omega) (by omega)
          rw [e] at rg
          have := s2 (L 1 y) rg.1 rg.2
          rw [mbrF_hit W.mb (h := P 2 j) ⟨by have := hy.rg; omega, by have := hy.rg; omega⟩ e (by omega)] at this
          exact this
        · have q : Bx Q r y := by
            refine I.bx y hy ?_
            rcases hp with h | ⟨l, l1, l2, l3⟩
            · exact Or.inl h
            · by_cases lj : l = j
              · rw [lj] at l3; exact absurd l3.symm e
              · exact Or.inr ⟨l, l1, by omega, l3⟩
          refine ⟨fun ax ha => ?_, ?_⟩
          · have := far y ax ha e
            rw [this.1, this.2.1]; exact q.1 ax ha
          · rw [(far y 0 (Or.inl rfl) e).2.2]; exact q.2
      · rw [s5, I.t11, sj, if_pos z]
        have n6 : ∀ k : Int, 0 ≤ k → k < ((j + 1 : Nat) : Int) → isZ (P 2 k) → tgC X L (P 2 k) = tgC Q L (P 2 k) := fun k h1 h2 hz => by
          refine tgC_c ?_ x4
          by_cases y : k = j
          · have := (far (P 2 k) (L 5 (P 2 k - 32)) (W.axs _ hz.1 hz.2) (by
              rw [y]
              intro e
              have := hr (P 2 j) b.1 b.2 (by rw [e]; exact z.1) (by rw [e]; exact z.2)
              rw [e] at this; omega)).2.1
            exact this
          · exact (far (P 2 k) (L 5 (P 2 k - 32)) (W.axs _ hz.1 hz.2) (nokid k h1 (by omega))).2.1
        rw [n6 j (by omega) (by omega) z]
        congr 1
        refine smG_ext j (fun k h1 h2 => ?_)
        show (if isZ (P 2 k) then tgC Q L (P 2 k) else 0) = (if isZ (P 2 k) then tgC X L (P 2 k) else 0)
        by_cases y : isZ (P 2 k)
        · rw [if_pos y, if_pos y, n6 k h1 (by omega) y]
        · rw [if_neg y, if_neg y]
      · rw [s6, I.t12, sj, if_pos z]
        have n6 : ∀ k : Int, 0 ≤ k → k < ((j + 1 : Nat) : Int) → isZ (P 2 k) → X 6 (2 * P 2 k + (1 - L 5 (P 2 k - 32))) = Q 6 (2 * P 2 k + (1 - L 5 (P 2 k - 32))) := fun k h1 h2 hz => by
          have axs := W.axs _ hz.1 hz.2
          by_cases y : k = j
          · exact (far (P 2 k) (1 - L 5 (P 2 k - 32)) (by omega) (by
              rw [y]
              intro e
              have := hr (P 2 j) b.1 b.2 (by rw [e]; exact z.1) (by rw [e]; exact z.2)
              rw [e] at this; omega)).2.1
          · exact (far (P 2 k) (1 - L 5 (P 2 k - 32)) (by omega) (nokid k h1 (by omega))).2.1
        rw [n6 j (by omega) (by omega) z]
        congr 1
        refine smG_ext j (fun k h1 h2 => ?_)
        show (if isZ (P 2 k) then (L 2 (P 2 k) - 1) * Q 6 (2 * P 2 k + (1 - L 5 (P 2 k - 32))) else 0) = (if isZ (P 2 k) then (L 2 (P 2 k) - 1) * X 6 (2 * P 2 k + (1 - L 5 (P 2 k - 32))) else 0)
        by_cases y : isZ (P 2 k)
        · rw [if_pos y, if_pos y, n6 k h1 (by omega) y]
        · rw [if_neg y, if_neg y]
    · have e : wkS L Q (P 2 j) = Q := by unfold wkS; exact if_neg (fun q => z ⟨q.1, q.2⟩)
      rw [e]
      first | with_reducible refine WkI.mk ?_ ?_ ?_ ?_ ?_ ?_ | with_reducible refine PlE.mk ?_ ?_ ?_ ?_ ?_ | with_reducible refine Pl0.mk ?_ ?_ ?_ ?_ | with_reducible refine Tp.mk ?_ ?_ | with_reducible refine Vl.mk ?_ ?_ | with_reducible refine Lk.mk ?_ | with_reducible refine RfQ.mk ?_ ?_ ?_ ?_ | with_reducible refine ShQ.mk ?_ ?_ ?_ ?_ | with_reducible refine Que.mk ?_ ?_ ?_ ?_ ?_ ?_ ?_ ?_ | with_reducible refine QuI.mk ?_ ?_ ?_ ?_ ?_ ?_ | with_reducible refine Ord.mk ?_ ?_ ?_ ?_ ?_ ?_ ?_ ?_ ?_ ?_ | with_reducible refine LnI.mk ?_ ?_ ?_ ?_ ?_ ?_ ?_ ?_ ?_ ?_ ?_ ?_ ?_ ?_ ?_ ?_ ?_ | with_reducible refine Rl.mk ?_ ?_ ?_ ?_ ?_ ?_ ?_ ?_ ?_ ?_ ?_ ?_ ?_ | with_reducible refine Wf.mk ?_ ?_ ?_ ?_ ?_ ?_ ?_ ?_ ?_ ?_ ?_ | with_reducible refine Mb.mk ?_ ?_ ?_ ?_ ?_ | constructor
      · exact I.p0
      · exact I.kp
      · intro k h1 h2 hz
        by_cases y : k = j
        · rw [y] at hz; exact absurd hz z
        · exact I.be k h1 (by omega) hz
      · intro y hy hp
        refine I.bx y hy ?_
        rcases hp with h | ⟨l, l1, l2, l3⟩
        · exact Or.inl h
        · by_cases lj : l = j
          · rw [lj] at l3
            rcases hy.hol W with q | q
            · exact Or.inl q
            · rw [← l3] at q; exact absurd q z
          · exact Or.inr ⟨l, l1, by omega, l3⟩
      · rw [sj, if_neg z, I.t11]; omega
      · rw [sj, if_neg z, I.t12]; omega
/-- the whole plan of the class -/
theorem wkF_e {P L : Mem} {f : Int → Int} {w h : Int} (W : Wf L (-1)) (F : Fu L) (hf : LeB f) (hl : LeL f L) (hV : Vl L) (hR : R32 P) {r : Int → Nat} (hb : ∀ x : Int, r x ≤ 16) (hr : ∀ t : Int, 16 ≤ t → t < 47 → 32 ≤ L 0 t → L 0 t < 47 → r t < r (L 0 t))
    (hw : 0 ≤ w ∧ w ≤ 400) (hh : 0 ≤ h ∧ h ≤ 400) : PlE L f w h r (wkF P L f w h) := by
  have mt1 := lmF_T (P := P) W F
  obtain ⟨o1, m1, -⟩ := lnF_ord (P := lmF P L) W F mt1
  have R1 : R32 (lnF (lmF P L) L) := lnF_R (lmG_R hR L 49) L
  have n1 := o1.n0
  obtain ⟨d1, d2⟩ := mdG_e W F hf (lnF (lmF P L) L 0 9).toNat (lnF (lmF P L) L) R1 m1 o1 (by omega) (fun k h1 h2 => by omega)
  have eM : wkM P L f = mdG L f (lnF (lmF P L) L 0 9).toNat (lnF (lmF P L) L) := rfl
  rw [← eM] at d1 d2
  generalize lnF (lmF P L) L = Q1 at *
  have m2 : MoT (wkM P L f) L := fun h i a c d e => by rw [d2 1 _ (by omega)]; exact m1 h i a c d e
  obtain ⟨t1, t2⟩ := prF_e (P := wkM P L f) W F hV m2 (w := w) (h := h) (by omega) (by omega)
  have zk : ∀ (k : Nat) (i : Int), k ≠ 5 → k ≠ 6 → k ≠ 7 → (k = 0 → i ≠ 11 ∧ i ≠ 12) → wkZ P L f w h k i = wkM P L f k i := fun k i k5 k6 k7 k0 => by
    unfold wkZ
    rw [up_e, if_neg (by omega), up_e, if_neg (by omega), t2 k i k5 k6 k7]
  have z5 : ∀ (k : Nat) (i : Int), 5 ≤ k → wkZ P L f w h k i = prF (pfF (wkM P L f) L) w h k i := fun k i hk => by
    unfold wkZ
    rw [up_e, if_neg (by omega), up_e, if_neg (by omega)]
  have q4 : ∀ (k : Nat) (i : Int), k ≠ 4 → k ≠ 5 → k ≠ 6 → k ≠ 7 → (k = 0 → i ≠ 11 ∧ i ≠ 12) → wkZ P L f w h k i = Q1 k i := fun k i k4 k5 k6 k7 k0 => by rw [zk k i k5 k6 k7 k0, d2 k i k4]
  have P0 : Pl0 L f w h (wkZ P L f w h) := by
    first | with_reducible refine WkI.mk ?_ ?_ ?_ ?_ ?_ ?_ | with_reducible refine PlE.mk ?_ ?_ ?_ ?_ ?_ | with_reducible refine Pl0.mk ?_ ?_ ?_ ?_ | with_reducible refine Tp.mk ?_ ?_ | with_reducible refine Vl.mk ?_ ?_ | with_reducible refine Lk.mk ?_ | with_reducible refine RfQ.mk ?_ ?_ ?_ ?_ | with_reducible refine ShQ.mk ?_ ?_ ?_ ?_ | with_reducible refine Que.mk ?_ ?_ ?_ ?_ ?_ ?_ ?_ ?_ | with_reducible refine QuI.mk ?_ ?_ ?_ ?_ ?_ ?_ | with_reducible refine Ord.mk ?_ ?_ ?_ ?_ ?_ ?_ ?_ ?_ ?_ ?_ | with_reducible refine LnI.mk ?_ ?_ ?_ ?_ ?_ ?_ ?_ ?_ ?_ ?_ ?_ ?_ ?_ ?_ ?_ ?_ ?_ | with_reducible refine Rl.mk ?_ ?_ ?_ ?_ ?_ ?_ ?_ ?_ ?_ ?_ ?_ ?_ ?_ | with_reducible refine Wf.mk ?_ ?_ ?_ ?_ ?_ ?_ ?_ ?_ ?_ ?_ ?_ | with_reducible refine Mb.mk ?_ ?_ ?_ ?_ ?_ | constructor
    · intro h i a c d e; rw [zk 1 _ (by omega) (by omega) (by omega) (by omega)]; exact m2 h i a c d (by have := W.cnt16 F (h := h) ⟨a, c⟩; omega)
    · obtain ⟨a1, a2, a3, a4, a5, a6, a7, a8, a9, a10⟩ := o1
      (first | with_reducible refine WkI.mk ?_ ?_ ?_ ?_ ?_ ?_ | with_reducible refine PlE.mk ?_ ?_ ?_ ?_ ?_ | with_reducible refine Pl0.mk ?_ ?_ ?_ ?_ | with_reducible refine Tp.mk ?_ ?_ | with_reducible refine Vl.mk ?_ ?_ | with_reducible refine Lk.mk ?_ | with_reducible refine RfQ.mk ?_ ?_ ?_ ?_ | with_reducible refine ShQ.mk ?_ ?_ ?_ ?_ | with_reducible refine Que.mk ?_ ?_ ?_ ?_ ?_ ?_ ?_ ?_ | with_reducible refine QuI.mk ?_ ?_ ?_ ?_ ?_ ?_ | with_reducible refine Ord.mk ?_ ?_ ?_ ?_ ?_ ?_ ?_ ?_ ?_ ?_ | with_reducible refine LnI.mk ?_ ?_ ?_ ?_ ?_ ?_ ?_ ?_ ?_ ?_ ?_ ?_ ?_ ?_ ?_ ?_ ?_ | with_reducible refine Rl.mk ?_ ?_ ?_ ?_ ?_ ?_ ?_ ?_ ?_ ?_ ?_ ?_ ?_ | with_reducible refine Wf.mk ?_ ?_ ?_ ?_ ?_ ?_ ?_ ?_ ?_ ?_ ?_ | with_reducible refine Mb.mk ?_ ?_ ?_ ?_ ?_ | constructor) <;> simpa only [q4 0 9 (by omega) (by omega) (by omega) (by omega) (by omega), q4 0 10 (by omega) (by omega) (by omega) (by omega) (by omega), q4 2 _ (show (2 : Nat) ≠ 4 by omega) (show (2 : Nat) ≠ 5 by omega) (show (2 : Nat) ≠ 6 by omega) (show (2 : Nat) ≠ 7 by omega) (fun q => absurd q (by omega))]
    · intro x hx
      obtain ⟨k, k1, k2, k3⟩ := o1.all x hx
      have eV : VC (wkZ P L f w h) = VC (wkM P L f) := by funext y ax; unfold VC; rw [zk 4 _ (by omega) (by omega) (by omega) (by omega)]
      rw [eV, ← k3]
      exact d1 k k1 k2
    · first | with_reducible refine WkI.mk ?_ ?_ ?_ ?_ ?_ ?_ | with_reducible refine PlE.mk ?_ ?_ ?_ ?_ ?_ | with_reducible refine Pl0.mk ?_ ?_ ?_ ?_ | with_reducible refine Tp.mk ?_ ?_ | with_reducible refine Vl.mk ?_ ?_ | with_reducible refine Lk.mk ?_ | with_reducible refine RfQ.mk ?_ ?_ ?_ ?_ | with_reducible refine ShQ.mk ?_ ?_ ?_ ?_ | with_reducible refine Que.mk ?_ ?_ ?_ ?_ ?_ ?_ ?_ ?_ | with_reducible refine QuI.mk ?_ ?_ ?_ ?_ ?_ ?_ | with_reducible refine Ord.mk ?_ ?_ ?_ ?_ ?_ ?_ ?_ ?_ ?_ ?_ | with_reducible refine LnI.mk ?_ ?_ ?_ ?_ ?_ ?_ ?_ ?_ ?_ ?_ ?_ ?_ ?_ ?_ ?_ ?_ ?_ | with_reducible refine Rl.mk ?_ ?_ ?_ ?_ ?_ ?_ ?_ ?_ ?_ ?_ ?_ ?_ ?_ | with_reducible refine Wf.mk ?_ ?_ ?_ ?_ ?_ ?_ ?_ ?_ ?_ ?_ ?_ | with_reducible refine Mb.mk ?_ ?_ ?_ ?_ ?_ | constructor
      · intro g ax g1 g2 g3 ha
        rw [z5 5 _ (by omega), z5 6 _ (by omega), z5 7 _ (by omega)]
        exact t1.flo g ax g1 g2 g3 ha
      · intro x hx e
        rw [z5 5 _ (by omega), z5 5 _ (by omega), z5 6 _ (by omega), z5 6 _ (by omega), z5 7 _ (by omega)]
        exact t1.roo x hx e
  have n9 := P0.od.n0
  have hM : MoT (wkZ P L f w h) L := fun h i a c d e => by rw [zk 1 _ (by omega) (by omega) (by omega) (by omega)]; exact m2 h i a c d e
  have I := wkG_e W F hf hl hV hb hr hw hh P0 hM (by unfold wkZ; rw [up_e, if_neg (by omega), up_e, if_pos ⟨rfl, rfl⟩]) (by unfold wkZ; rw [up_e, if_pos ⟨rfl, rfl⟩]) (wkZ P L f w h 0 9).toNat (by omega)
  have eW : wkF P L f w h = wkG (wkZ P L f w h) L (wkZ P L f w h 0 9).toNat := rfl
  rw [← eW] at I
  have k9 := I.kp 0 9 (by omega)
  have k2 := fun i => I.kp 2 i (by omega)
  generalize wkF P L f w h = X at *
  first | with_reducible refine WkI.mk ?_ ?_ ?_ ?_ ?_ ?_ | with_reducible refine PlE.mk ?_ ?_ ?_ ?_ ?_ | with_reducible refine Pl0.mk ?_ ?_ ?_ ?_ | with_reducible refine Tp.mk ?_ ?_ | with_reducible refine Vl.mk ?_ ?_ | with_reducible refine Lk.mk ?_ | with_reducible refine RfQ.mk ?_ ?_ ?_ ?_ | with_reducible refine ShQ.mk ?_ ?_ ?_ ?_ | with_reducible refine Que.mk ?_ ?_ ?_ ?_ ?_ ?_ ?_ ?_ | with_reducible refine QuI.mk ?_ ?_ ?_ ?_ ?_ ?_ | with_reducible refine Ord.mk ?_ ?_ ?_ ?_ ?_ ?_ ?_ ?_ ?_ ?_ | with_reducible refine LnI.mk ?_ ?_ ?_ ?_ ?_ ?_ ?_ ?_ ?_ ?_ ?_ ?_ ?_ ?_ ?_ ?_ ?_ | with_reducible refine Rl.mk ?_ ?_ ?_ ?_ ?_ ?_ ?_ ?_ ?_ ?_ ?_ ?_ ?_ | with_reducible refine Wf.mk ?_ ?_ ?_ ?_ ?_ ?_ ?_ ?_ ?_ ?_ ?_ | with_reducible refine Mb.mk ?_ ?_ ?_ ?_ ?_ | constructor
  · exact I.p0
  · intro x hx z
    obtain ⟨k, k1, k3, k4⟩ := P0.od.all x hx
    rw [← k4]
    exact I.be k k1 (by omega) (by rw [k4]; exact z)
  · intro x hx
    refine I.bx x hx ?_
    rcases hx.hol W with q | q
    · exact Or.inl q
    · obtain ⟨k, k1, k3, k4⟩ := P0.od.all _ (hx.par W q)
      exact Or.inr ⟨k, k1, by omega, k4⟩
  · rw [I.t11, k9]
    exact smG_ext _ (fun k _ _ => by show (if isZ (wkZ P L f w h 2 k) then tgC X L (wkZ P L f w h 2 k) else 0) = _; rw [k2])
  · rw [I.t12, k9]
    exact smG_ext _ (fun k _ _ => by show (if isZ (wkZ P L f w h 2 k) then (L 2 (wkZ P L f w h 2 k) - 1) * X 6 (2 * wkZ P L f w h 2 k + (1 - L 5 (wkZ P L f w h 2 k - 32))) else 0) = _; rw [k2])
