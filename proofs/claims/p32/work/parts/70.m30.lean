/-! boxes: the class's pass over the splits -/
def leC (P L : Mem) (x : Int) : Int → Int := fun k => VC P (mbrF L x k) (L 5 (x - 32))
def wtC (L : Mem) (x : Int) : Int → Int := fun k => L 3 (mbrF L x k)
noncomputable def shC (P L : Mem) (x : Int) : Int → Int := shr (L 2 x).toNat (cel L (P 6 (2 * x + L 5 (x - 32))) x) (leC P L x) (wtC L x)
def tgC (P L : Mem) (x : Int) : Int := if cel L (P 6 (2 * x + L 5 (x - 32))) x ≤ smG (leC P L x) (L 2 x).toNat then 1 else 0
/-- the boxes of the children of a split -/
def BE (P L : Mem) (x : Int) : Prop := (∀ k : Int, 0 ≤ k → k < L 2 x →
  P 5 (2 * mbrF L x k + L 5 (x - 32)) = P 5 (2 * x + L 5 (x - 32)) + smG (fun j => shC P L x j + 1) k.toNat ∧ P 6 (2 * mbrF L x k + L 5 (x - 32)) = shC P L x k ∧
    P 5 (2 * mbrF L x k + (1 - L 5 (x - 32))) = P 5 (2 * x + (1 - L 5 (x - 32))) ∧ P 6 (2 * mbrF L x k + (1 - L 5 (x - 32))) = P 6 (2 * x + (1 - L 5 (x - 32))) ∧ P 7 (mbrF L x k) = P 7 x + 1) ∧ P 8 x = tgC P L x
/-- a box within what is asked -/
def Bx (P : Mem) (r : Int → Nat) (x : Int) : Prop := (∀ ax : Int, (ax = 0 ∨ ax = 1) → (0 ≤ P 5 (2 * x + ax) ∧ P 5 (2 * x + ax) ≤ 600 * (17 - r x)) ∧ 0 ≤ P 6 (2 * x + ax) ∧ P 6 (2 * x + ax) ≤ 400) ∧ 0 ≤ P 7 x ∧ P 7 x ≤ 17 - r x
theorem shOk_e {P L : Mem} {f : Int → Int} (W : Wf L (-1)) (F : Fu L) (hf : LeB f) (hl : LeL f L) (hV : Vl L) (h : ∀ x : Int, InT L x → WE f L (VC P) x) {x : Int} (hx : InT L x) (z : isZ x) {sz : Int} (hsz : 0 ≤ sz ∧ sz ≤ 1000) : ShOk (L 2 x).toNat (cel L sz x) (leC P L x) (wtC L x) := by
  have b := hx.rg
  have z1 := z.1
  have z2 := z.2
  obtain ⟨r, hb, hr⟩ := W.rankB
  have c16 := W.cnt16 F (h := x) ⟨by omega, by omega⟩
  have x0 : L 0 x ≠ -1 := by have := hx.1.2; omega
  have f2 := ((F x b.1 b.2).2 x0).2 z1
  have axs := W.axs x z1 z2
  refine ⟨by omega, by unfold cel; omega, fun k h1 h2 => ?_⟩
  have kT := kidT W z (j := k) ⟨h1, by omega⟩
  obtain ⟨a, c, -⟩ := mbrF_get W.mb (h := x) (i := k) ⟨by omega, by omega⟩ ⟨h1, by omega⟩
  have lo := WE.low W F hf hl h hb hr _ _ (Nat.le_refl _) kT (L 5 (x - 32)) axs
  have hi := WE.bnd W F hf h hb hr _ _ (Nat.le_refl _) kT (L 5 (x - 32)) axs
  have lv := lvN_b L (mbrF L x k)
  have wt := hV.wts (mbrF L x k) a.1 a.2 (by rw [c]; exact z)
  exact ⟨by show 1 ≤ VC P (mbrF L x k) (L 5 (x - 32)) ∧ VC P (mbrF L x k) (L 5 (x - 32)) ≤ 1000; omega, wt⟩
theorem smG_pre {f : Int → Int} : ∀ (m j : Nat), j ≤ m → (∀ k : Int, 0 ≤ k → k < m → 0 ≤ f k) → smG f j ≤ smG f m
  | 0, j, h, _ => by have : j = 0 := by omega
                     subst this; exact Int.le_refl _
  | m + 1, j, h, hf => by
    by_cases z : j = m + 1
    · rw [z]; exact Int.le_refl _
    · have a := smG_pre m j (by omega) (fun k h1 h2 => hf k h1 (by omega))
      have := hf m (by omega) (by omega)
      show smG f j ≤ smG f m + f m
      omega
/-- one split -/
theorem wkS_e {P L : Mem} {f : Int → Int} (W : Wf L (-1)) (F : Fu L) (hf : LeB f) (hl : LeL f L) (hV : Vl L) (hM : MoT P L) (h : ∀ x : Int, InT L x → WE f L (VC P) x) {r : Int → Nat} (hb : ∀ x : Int, r x ≤ 16) (hr : ∀ t : Int, 16 ≤ t → t < 47 → 32 ≤ L 0 t → L 0 t < 47 → r t < r (L 0 t))
    {x : Int} (hx : InT L x) (z : isZ x) (hB : Bx P r x) (h11 : 0 ≤ P 0 11 ∧ P 0 11 ≤ 100) (h12 : 0 ≤ P 0 12 ∧ P 0 12 ≤ 1000000) :
    BE (wkS L P x) L x ∧ (∀ k : Int, 0 ≤ k → k < L 2 x → Bx (wkS L P x) r (mbrF L x k)) ∧
      (∀ (y ax : Int), (ax = 0 ∨ ax = 1) → (∀ k : Int, 0 ≤ k → k < L 2 x → y ≠ mbrF L x k) → wkS L P x 5 (2 * y + ax) = P 5 (2 * y + ax) ∧ wkS L P x 6 (2 * y + ax) = P 6 (2 * y + ax) ∧ wkS L P x 7 y = P 7 y) ∧
      (∀ i : Int, i ≠ x → wkS L P x 8 i = P 8 i) ∧ wkS L P x 0 11 = P 0 11 + tgC P L x ∧ wkS L P x 0 12 = P 0 12 + (L 2 x - 1) * P 6 (2 * x + (1 - L 5 (x - 32))) ∧
      (∀ (k : Nat) (i : Int), (1 ≤ k ∧ k ≤ 4) ∨ (k = 0 ∧ (i = 9 ∨ i = 10)) → wkS L P x k i = P k i) := by
  have b := hx.rg
  have z1 := z.1
  have z2 := z.2
  have axs := W.axs x z1 z2
  have c16 := W.cnt16 F (h := x) ⟨by omega, by omega⟩
  have x0 : L 0 x ≠ -1 := by have := hx.1.2; omega
  have f2 := ((F x b.1 b.2).2 x0).2 z1
  have hBa := hB.1 (L 5 (x - 32)) axs
  have hBc := hB.1 (1 - L 5 (x - 32)) (by omega)
  have rx := hb x
  have hS := shOk_e W F hf hl hV h hx z (sz := P 6 (2 * x + L 5 (x - 32))) (by omega)
  have sb := shr_b hS (by omega)
  obtain ⟨s1, s2, s3, s4⟩ := scF_e W F hM hx z (by omega) (by omega) hS
  have s1 : ∀ k : Int, 0 ≤ k → k < L 2 x → scF P L x 12 k = shC P L x k := s1
  have s2 : ∀ i : Int, scF P L x 8 i = if i = x then tgC P L x else P 8 i := s2
  have s3 : scF P L x 0 11 = P 0 11 + tgC P L x := s3
  have sb1 : ∀ k : Int, 0 ≤ k → k < ((L 2 x).toNat : Int) → 0 ≤ shC P L x k := sb.1
  have sb2 : smG (shC P L x) (L 2 x).toNat ≤ cel L (P 6 (2 * x + L 5 (x - 32))) x := sb.2
  have ce : cel L (P 6 (2 * x + L 5 (x - 32))) x ≤ P 6 (2 * x + L 5 (x - 32)) := by unfold cel; omega
  have shb : ∀ k : Int, 0 ≤ k → k < L 2 x → 0 ≤ shC P L x k ∧ shC P L x k ≤ 400 := fun k h1 h2 => by
    have a1 := sb1 k h1 (by omega)
    have a2 := smG_pos (f := shC P L x) (m := (L 2 x).toNat) (k := k) sb1 ⟨h1, by omega⟩
    omega
  have k5 : ∀ i, scF P L x 5 i = P 5 i := fun i => s4 5 i (by omega) (by omega) (by omega) (by omega) (by omega) (by omega) (by omega)
  have k6 : ∀ i, scF P L x 6 i = P 6 i := fun i => s4 6 i (by omega) (by omega) (by omega) (by omega) (by omega) (by omega) (by omega)
  have k7 : ∀ i, scF P L x 7 i = P 7 i := fun i => s4 7 i (by omega) (by omega) (by omega) (by omega) (by omega) (by omega) (by omega)
  have k12 : scF P L x 0 12 = P 0 12 := s4 0 12 (by omega) (by omega) (by omega) (by omega) (by omega) (by omega) (by omega)
  have hM2 : MoT (scF P L x) L := fun h i a c d e => by rw [s4 1 _ (by omega) (by omega) (by omega) (by omega) (by omega) (by omega) (by omega)]; exact hM h i a c d e
  obtain ⟨p1, p2, p3, p4⟩ := pcG_e W F hM2 hx z (sh := shC P L x) (fun k h1 h2 => ⟨s1 k h1 h2, (shb k h1 h2).1, by have := (shb k h1 h2).2; omega⟩) (fun ax ha => by
    have := hB.1 ax ha
    rw [k5, k6]; omega) (by rw [k7]; have := hB.2; omega) (by rw [k12]; exact h12) (L 2 x).toNat (Nat.le_refl _)
  have eW : wkS L P x = (pcG (scF P L x) L x (L 2 x).toNat).1 := by
    unfold wkS pcF
    rw [if_pos ⟨z1, z2⟩, gL_2 ⟨by omega, by omega⟩]
  rw [eW]
  simp only [k5, k6, k7] at p2 p3
  generalize (pcG (scF P L x) L x (L 2 x).toNat).1 = X at *
  have kid : ∀ k : Int, 0 ≤ k → k < L 2 x → (0 ≤ mbrF L x k ∧ mbrF L x k < 49) ∧ L 0 (mbrF L x k) = x ∧ L 1 (mbrF L x k) = k := fun k h1 h2 => mbrF_get W.mb ⟨by omega, by omega⟩ ⟨h1, h2⟩
  have kself : ∀ k : Int, 0 ≤ k → k < L 2 x → x ≠ mbrF L x k := fun k h1 h2 e => by
    have a := (kid k h1 h2).2.1
    rw [← e] at a
    have := hr x b.1 b.2 (by omega) (by omega)
    rw [a] at this
    omega
  have own := fun ax ha => p3 x ax ha (fun k h1 h2 => kself k h1 (by omega))
  have o1 := own (L 5 (x - 32)) axs
  have o2 := own (1 - L 5 (x - 32)) (by omega)
  have e4 : ∀ i, X 4 i = P 4 i := fun i => by rw [p4 4 i (by omega) (by omega) (by omega), if_neg (by omega), s4 4 i (by omega) (by omega) (by omega) (by omega) (by omega) (by omega) (by omega)]
  have eLe : leC X L x = leC P L x := by funext k; unfold leC VC; rw [e4]
  have eSh : shC X L x = shC P L x := by unfold shC; rw [o1.2.1, eLe]
  have eTg : tgC X L x = tgC P L x := by unfold tgC; rw [o1.2.1, eLe]
  refine ⟨⟨fun k h1 h2 => ?_, ?_⟩, fun k h1 h2 => ?_, fun y ax ha hy => p3 y ax ha (fun k h1 h2 => hy k h1 (by omega)), fun i hi => ?_, ?_, ?_, fun k i hk => ?_⟩
  · rw [eSh, o1.1, o2.1, o2.2.1, o1.2.2]
    exact p2 k h1 (by omega)
  · rw [p4 8 x (by omega) (by omega) (by omega), if_neg (by omega), s2, if_pos rfl, eTg]
  · obtain ⟨a1, a2, a3, a4, a5⟩ := p2 k h1 (by omega)
    obtain ⟨c1, c2, c3⟩ := kid k h1 h2
    have m := W.mem c1 (by omega)
    have rr := hr (mbrF L x k) m.1 m.2 (by rw [c2]; exact z1) (by rw [c2]; exact z2)
    rw [c2] at rr
    have sh := shb k h1 h2
    have pre : 0 ≤ smG (fun j => shC P L x j + 1) k.toNat ∧ smG (fun j => shC P L x j + 1) k.toNat ≤ 500 := by
      have t1 := smG_ge (fun j => shC P L x j + 1) 0 k.toNat (fun j j1 j2 => by have := shb j j1 (by omega); show 0 ≤ shC P L x j + 1; omega)
      have t2 := smG_pre (f := fun j => shC P L x j + 1) (L 2 x).toNat k.toNat (by omega) (fun j j1 j2 => by have := shb j j1 (by omega); show 0 ≤ shC P L x j + 1; omega)
      have t3 := smG_le (fun _ => (1 : Int)) 1 (L 2 x).toNat (fun _ _ _ => Int.le_refl _)
      have t4 : smG (fun j => shC P L x j + 1) (L 2 x).toNat = smG (shC P L x) (L 2 x).toNat + smG (fun _ => (1 : Int)) (L 2 x).toNat := smG_add (shC P L x) (fun _ => 1) _
      omega
    refine ⟨fun ax ha => ?_, ?_⟩
    · by_cases y : ax = L 5 (x - 32)
      · rw [y, a1, a2]
        have := (hB.1 (L 5 (x - 32)) axs).1
        have rm := hb (mbrF L x k)
        omega
      · have y' : ax = 1 - L 5 (x - 32) := by omega
        rw [y', a3, a4]
        have rm := hb (mbrF L x k)
        omega
    · rw [a5]
      have := hB.2
      omega
  · rw [p4 8 i (by omega) (by omega) (by omega), if_neg (by omega), s2, if_neg hi]
  · rw [p4 0 11 (by omega) (by omega) (by omega), if_neg (by omega), s3]
  · rw [p4 0 12 (by omega) (by omega) (by omega), if_pos ⟨rfl, rfl⟩, k12, k6]
  · rw [p4 k i (by omega) (by omega) (by omega), if_neg (by omega), s4 k i (by omega) (by omega) (by omega) (by omega) (by omega) (by omega) (by omega)]
