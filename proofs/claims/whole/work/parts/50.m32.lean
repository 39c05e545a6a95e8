/-! boxes: the reference -/
theorem bcG_e {T : Mem} {s b : Int} {sh : Int → Int} : ∀ (d k : Nat) (Z : Mem), (∀ j : Int, k ≤ j → j < k + d → chT T s j ≠ s ∧ Z 14 j = sh j ∧ 0 ≤ sh j ∧ sh j ≤ 1000) → (∀ i j : Int, k ≤ i → i < k + d → k ≤ j → j < k + d → chT T s i = chT T s j → i = j) →
    (0 ≤ Z 9 s ∧ Z 9 s ≤ 100000) → (0 ≤ Z 10 s ∧ Z 10 s ≤ 100000) → (0 ≤ smG (fun i => sh i + 1) k ∧ smG (fun i => sh i + 1) k ≤ 100000 - 2000 * d) →
    (∀ j : Int, k ≤ j → j < k + d → bcG T s b d k (smG (fun i => sh i + 1) k) Z 9 (chT T s j) = Z 9 s + (if b = 1 then smG (fun i => sh i + 1) j.toNat else 0) ∧ bcG T s b d k (smG (fun i => sh i + 1) k) Z 10 (chT T s j) = Z 10 s + (if b = 1 then 0 else smG (fun i => sh i + 1) j.toNat) ∧
        bcG T s b d k (smG (fun i => sh i + 1) k) Z 11 (chT T s j) = (if b = 1 then sh j else Z 11 s) ∧ bcG T s b d k (smG (fun i => sh i + 1) k) Z 12 (chT T s j) = (if b = 1 then Z 12 s else sh j)) ∧
      (∀ (w : Nat) (o : Int), (∀ j : Int, k ≤ j → j < k + d → o ≠ chT T s j) → bcG T s b d k (smG (fun i => sh i + 1) k) Z w o = Z w o) ∧ (∀ (w : Nat) (o : Int), w < 9 ∨ 12 < w → bcG T s b d k (smG (fun i => sh i + 1) k) Z w o = Z w o)
  | 0, k, Z, _, _, _, _, _ => ⟨fun j h1 h2 => by omega, fun _ _ _ => rfl, fun _ _ _ => rfl⟩
  | d + 1, k, Z, hc, hi, h9, h10, hg => by
    have hk := hc k (by omega) (by omega)
    have gk : smG (fun i => sh i + 1) (k + 1) = smG (fun i => sh i + 1) k + (sh k + 1) := rfl
    have eD : bcD Z s (chT T s k) b (smG (fun i => sh i + 1) k) k = up (up (up (up Z 9 (chT T s k) (Z 9 s + (if b = 1 then smG (fun i => sh i + 1) k else 0))) 10 (chT T s k) (Z 10 s + (if b = 1 then 0 else smG (fun i => sh i + 1) k))) 11 (chT T s k) (if b = 1 then sh k else Z 11 s)) 12 (chT T s k) (if b = 1 then Z 12 s else sh k) := by
      have n := hk.1
      unfold bcD bcC bcB bcA
      simp only [up_e]
      rw [wr_id (x := Z 9 s + (if b = 1 then smG (fun i => sh i + 1) k else 0)) (by split <;> omega)]
      simp only [hk.2.1]
      rw [if_neg (show ¬ ((10 : Nat) = 9 ∧ s = chT T s k) by omega), wr_id (x := Z 10 s + (if b = 1 then 0 else smG (fun i => sh i + 1) k)) (by split <;> omega)]
      by_cases z : b = 1 <;> simp [z, n, Ne.symm n]
    unfold bcG
    rw [eD]
    have e14 : up (up (up (up Z 9 (chT T s k) (Z 9 s + (if b = 1 then smG (fun i => sh i + 1) k else 0))) 10 (chT T s k) (Z 10 s + (if b = 1 then 0 else smG (fun i => sh i + 1) k))) 11 (chT T s k) (if b = 1 then sh k else Z 11 s)) 12 (chT T s k) (if b = 1 then Z 12 s else sh k) 14 k = sh k := by
      rw [up_e, if_neg (by omega), up_e, if_neg (by omega), up_e, if_neg (by omega), up_e, if_neg (by omega), hk.2.1]
    rw [e14, ← gk, show ((k : Nat) : Int) + 1 = ((k + 1 : Nat) : Int) by omega]
    generalize hY : up (up (up (up Z 9 (chT T s k) (Z 9 s + (if b = 1 then smG (fun i => sh i + 1) k else 0))) 10 (chT T s k) (Z 10 s + (if b = 1 then 0 else smG (fun i => sh i + 1) k))) 11 (chT T s k) (if b = 1 then sh k else Z 11 s)) 12 (chT T s k) (if b = 1 then Z 12 s else sh k) = Y at *
    have yo : ∀ (w : Nat) (o : Int), o ≠ chT T s k → Y w o = Z w o := fun w o ho => by
      rw [← hY, up_e, if_neg (fun q => ho q.2), up_e, if_neg (fun q => ho q.2), up_e, if_neg (fun q => ho q.2), up_e, if_neg (fun q => ho q.2)]
    have yw : ∀ (w : Nat) (o : Int), w < 9 ∨ 12 < w → Y w o = Z w o := fun w o hw => by
      rw [← hY, up_e, if_neg (by omega), up_e, if_neg (by omega), up_e, if_neg (by omega), up_e, if_neg (by omega)]
    have n := hk.1
    have ys : ∀ w, Y w s = Z w s := fun w => yo w s (fun e => n e.symm)
    obtain ⟨q1, q2, q3⟩ := bcG_e (T := T) (s := s) (b := b) (sh := sh) d (k + 1) Y (fun j h1 h2 => by
      have := hc j (by omega) (by omega)
      exact ⟨this.1, by rw [yw 14 _ (by omega)]; exact this.2.1, this.2.2⟩) (fun i j h1 h2 h3 h4 => hi i j (by omega) (by omega) (by omega) (by omega)) (by rw [ys]; exact h9) (by rw [ys]; exact h10) (by rw [gk]; omega)
    refine ⟨fun j h1 h2 => ?_, fun w o ho => ?_, fun w o hw => ?_⟩
    · by_cases z : j = k
      · subst z
        have far : ∀ w, bcG T s b d ((k + 1 : Nat) : Int) (smG (fun i => sh i + 1) (k + 1)) Y w (chT T s k) = Y w (chT T s k) := fun w => q2 w _ (fun j h1 h2 e => by
          have := hi k j (by omega) (by omega) (by omega) (by omega) e
          omega)
        rw [far, far, far, far, ← hY, show ((k : Nat) : Int).toNat = k by omega]
        refine ⟨?_, ?_, ?_, ?_⟩
        · rw [up_e, if_neg (by omega), up_e, if_neg (by omega), up_e, if_neg (by omega), up_e, if_pos ⟨rfl, rfl⟩]
        · rw [up_e, if_neg (by omega), up_e, if_neg (by omega), up_e, if_pos ⟨rfl, rfl⟩]
        · rw [up_e, if_neg (by omega), up_e, if_pos ⟨rfl, rfl⟩]
        · rw [up_e, if_pos ⟨rfl, rfl⟩]
      · have := q1 j (by omega) (by omega)
        rw [ys, ys, ys, ys] at this
        exact this
    · rw [q2 w o (fun j h1 h2 => ho j (by omega) (by omega)), yo w o (ho k (by omega) (by omega))]
    · rw [q3 w o hw, yw w o hw]
def sR (u : Int → Int) (Z : Mem) (x ax : Int) : Int := if ax = 0 then Z 9 (u x) else Z 10 (u x)
def zR (u : Int → Int) (Z : Mem) (x ax : Int) : Int := if ax = 0 then Z 11 (u x) else Z 12 (u x)
def leV (L : Mem) (V : Int → Int → Int) (x : Int) : Int → Int := fun k => V (mbrF L x k) (L 5 (x - 32))
noncomputable def shV (L : Mem) (V : Int → Int → Int) (sz x : Int) : Int → Int := shr (L 2 x).toNat (cel L sz x) (leV L V x) (wtC L x)
def tgV (L : Mem) (V : Int → Int → Int) (sz x : Int) : Int := if cel L sz x ≤ smG (leV L V x) (L 2 x).toNat then 1 else 0
/-- boxes of the children, whoever holds them -/
def BG (L : Mem) (V St Sz : Int → Int → Int) (x : Int) : Prop := ∀ k : Int, 0 ≤ k → k < L 2 x →
  St (mbrF L x k) (L 5 (x - 32)) = St x (L 5 (x - 32)) + smG (fun j => shV L V (Sz x (L 5 (x - 32))) x j + 1) k.toNat ∧ Sz (mbrF L x k) (L 5 (x - 32)) = shV L V (Sz x (L 5 (x - 32))) x k ∧
    St (mbrF L x k) (1 - L 5 (x - 32)) = St x (1 - L 5 (x - 32)) ∧ Sz (mbrF L x k) (1 - L 5 (x - 32)) = Sz x (1 - L 5 (x - 32))
def BxR (u : Int → Int) (Z : Mem) (r : Int → Nat) (x : Int) : Prop := ∀ ax : Int, (ax = 0 ∨ ax = 1) → (0 ≤ sR u Z x ax ∧ sR u Z x ax ≤ 600 * (17 - r x)) ∧ 0 ≤ zR u Z x ax ∧ zR u Z x ax ≤ 400
section QU
variable {u : Int → Int} {L T : Mem} {kq : Int}
theorem shOkR {f : Int → Int} {Z : Mem} (W : Wf L (-1)) (F : Fu L) (hf : LeB f) (hl : LeL f L) (hV : Vl L) (h : ∀ x : Int, InT L x → WE f L (VR u Z) x) {x : Int} (hx : InT L x) (z : isZ x) {sz : Int} (hsz : 0 ≤ sz ∧ sz ≤ 1000) : ShOk (L 2 x).toNat (cel L sz x) (leV L (VR u Z) x) (wtC L x) := by
  have b := hx.rg
  have z1 := z.1
  have z2 := z.2
  obtain ⟨r, hb, hr⟩ := W.rankB
  have c16 := W.cnt16 F (h := x) ⟨by omega, by omega⟩
  have x0 : L 0 x ≠ -1 := by have := hx.1.2; omega
  have f2 := ((F x b.1 b.2).2 x0).2 z1
  have axs := W.axs x z1 z2
  refine ⟨by omega, by unfold cel; omega, fun k h1 h2 => ?_⟩
  have kT := kidT W z (j := k) ⟨h1, by omega⟩
  obtain ⟨a, c, -⟩ := mbrF_get W.mb (h := x) (i := k) ⟨by omega, by omega⟩ ⟨h1, by omega⟩
  have lo := WE.low W F hf hl h hb hr _ _ (Nat.le_refl _) kT (L 5 (x - 32)) axs
  have hi := WE.bnd W F hf h hb hr _ _ (Nat.le_refl _) kT (L 5 (x - 32)) axs
  have lv := lvN_b L (mbrF L x k)
  have wt := hV.wts (mbrF L x k) a.1 a.2 (by rw [c]; exact z)
  exact ⟨by show 1 ≤ VR u Z (mbrF L x k) (L 5 (x - 32)) ∧ VR u Z (mbrF L x k) (L 5 (x - 32)) ≤ 1000; omega, wt⟩
theorem bxS_e {f : Int → Int} {Z : Mem} (R : Rl u L T (-1) kq) (F : Fu L) (hf : LeB f) (hl : LeL f L) (hV : Vl L) (h : ∀ x : Int, InT L x → WE f L (VR u Z) x) {r : Int → Nat} (hb : ∀ x : Int, r x ≤ 16) (hr : ∀ t : Int, 16 ≤ t → t < 47 → 32 ≤ L 0 t → L 0 t < 47 → r t < r (L 0 t))
    {x : Int} (hx : InT L x) (z : isZ x) (hB : BxR u Z r x) :
    BG L (VR u Z) (sR u (bxS T Z (u x))) (zR u (bxS T Z (u x))) x ∧ (∀ k : Int, 0 ≤ k → k < L 2 x → BxR u (bxS T Z (u x)) r (mbrF L x k)) ∧
      (∀ (w : Nat) (o : Int), 9 ≤ w → w ≤ 12 → (∀ k : Int, 0 ≤ k → k < L 2 x → o ≠ u (mbrF L x k)) → bxS T Z (u x) w o = Z w o) ∧ (∀ (w : Nat) (o : Int), w < 9 → bxS T Z (u x) w o = Z w o) ∧
      (∀ o : Int, bxS T Z (u x) 13 o = if o = u x then tgV L (VR u Z) (zR u Z x (L 5 (x - 32))) x else Z 13 o) ∧ okS T (up Z 13 (u x) 0) (u x) (exF T (up Z 13 (u x) 0) (u x) (u x)) := by
  have W := R.wf
  have b := hx.rg
  have z1 := z.1
  have z2 := z.2
  have axs := W.axs x z1 z2
  have c16 := W.cnt16 F (h := x) ⟨by omega, by omega⟩
  have x0 : L 0 x ≠ -1 := by have := hx.1.2; omega
  have f2 := ((F x b.1 b.2).2 x0).2 z1
  have kd := R.knd x hx.1
  unfold kindL at kd
  rw [if_neg (show ¬ x < 32 by omega)] at kd
  have kids := R.kids hx.1 z1
  have kid := fun j h1 h2 => R.kid hx.1 z1 (k := j) ⟨h1, h2⟩
  have ki : ∀ k : Int, 0 ≤ k → k < L 2 x → (0 ≤ mbrF L x k ∧ mbrF L x k < 49) ∧ L 0 (mbrF L x k) = x ∧ L 1 (mbrF L x k) = k := fun k h1 h2 => mbrF_get W.mb ⟨by omega, by omega⟩ ⟨h1, h2⟩
  have kT : ∀ k : Int, 0 ≤ k → k < L 2 x → InT L (mbrF L x k) := fun k h1 h2 => kidT W z ⟨h1, h2⟩
  have kinj : ∀ k l : Int, 0 ≤ k → k < L 2 x → 0 ≤ l → l < L 2 x → u (mbrF L x k) = u (mbrF L x l) → k = l := fun k l h1 h2 h3 h4 e => by
    have e := R.inj _ _ (kT k h1 h2).1 (kT l h3 h4).1 e
    have a := (ki k h1 h2).2.2
    rw [e, (ki l h3 h4).2.2] at a
    exact a.symm
  have kself : ∀ k : Int, 0 ≤ k → k < L 2 x → u (mbrF L x k) ≠ u x := fun k h1 h2 e => by
    have e := R.inj _ _ (kT k h1 h2).1 hx.1 e
    have a := (ki k h1 h2).2.1
    rw [e] at a
    have := hr x b.1 b.2 (by omega) (by omega)
    rw [a] at this
    omega
  have hBa := hB (L 5 (x - 32)) axs
  have hBc := hB (1 - L 5 (x - 32)) (by omega)
  have rx := hb x
  have hS := shOkR W F hf hl hV h hx z (sz := zR u Z x (L 5 (x - 32))) (by omega)
  have sb := shr_b hS (by omega)
  obtain ⟨N, hN, hz, hnz⟩ := frS9_end hS
  have se := shr_e hN hz hnz
  have t0 : T 0 (u x) = 2 ↔ L 5 (x - 32) = 0 := by omega
  have uk : ∀ (w : Nat) (i : Int), w ≠ 13 → up Z 13 (u x) 0 w i = Z w i := fun w i hw => by rw [up_e, if_neg (by omega)]
  have lt : ∀ (c : Int), ltF T (up Z 13 (u x) 0) (u x) (u c) = VR u Z c (L 5 (x - 32)) := fun c => by
    unfold ltF VR
    rw [uk 7 _ (by omega), uk 8 _ (by omega)]
    by_cases y : L 5 (x - 32) = 0
    · rw [if_pos (t0.mpr y), if_pos y]
    · rw [if_neg (fun q => y (t0.mp q)), if_neg y]
  have ex : exF T (up Z 13 (u x) 0) (u x) (u x) = zR u Z x (L 5 (x - 32)) := by
    unfold exF zR
    rw [uk 11 _ (by omega), uk 12 _ (by omega)]
    by_cases y : L 5 (x - 32) = 0
    · rw [if_pos (t0.mpr y), if_pos y]
    · rw [if_neg (fun q => y (t0.mp q)), if_neg y]
  have hRf : RfQ T (up Z 13 (u x) 0) (u x) (L 2 x).toNat (leV L (VR u Z) x) (wtC L x) := by
    first | with_reducible refine WkI.mk ?_ ?_ ?_ ?_ ?_ ?_ | with_reducible refine PlE.mk ?_ ?_ ?_ ?_ ?_ | with_reducible refine Pl0.mk ?_ ?_ ?_ ?_ | with_reducible refine Tp.mk ?_ ?_ | with_reducible refine Vl.mk ?_ ?_ | with_reducible refine Lk.mk ?_ | with_reducible refine RfQ.mk ?_ ?_ ?_ ?_ | with_reducible refine ShQ.mk ?_ ?_ ?_ ?_ | with_reducible refine Que.mk ?_ ?_ ?_ ?_ ?_ ?_ ?_ ?_ | with_reducible refine QuI.mk ?_ ?_ ?_ ?_ ?_ ?_ | with_reducible refine Ord.mk ?_ ?_ ?_ ?_ ?_ ?_ ?_ ?_ ?_ ?_ | with_reducible refine LnI.mk ?_ ?_ ?_ ?_ ?_ ?_ ?_ ?_ ?_ ?_ ?_ ?_ ?_ ?_ ?_ ?_ ?_ | with_reducible refine Rl.mk ?_ ?_ ?_ ?_ ?_ ?_ ?_ ?_ ?_ ?_ ?_ ?_ ?_ | with_reducible refine Wf.mk ?_ ?_ ?_ ?_ ?_ ?_ ?_ ?_ ?_ ?_ ?_ | with_reducible refine Mb.mk ?_ ?_ ?_ ?_ ?_ | constructor
    · rw [kids]; omega
    · intro k h1 h2; rw [kid k h1 (by omega)]; exact (R.rng _ (kT k h1 (by omega)).1).1
    · intro k h1 h2; rw [kid k h1 (by omega), lt]; rfl
    · intro k h1 h2
      have c := ki k h1 (by omega)
      rw [kid k h1 (by omega), R.wt _ (kT k h1 (by omega)).1 (by rw [c.2.1]; exact z1) (by rw [c.2.1]; exact z2)]
      rfl
  have al : alF T (u x) (zR u Z x (L 5 (x - 32))) = cel L (zR u Z x (L 5 (x - 32))) x := by
    unfold alF cel
    rw [kids]
    split <;> omega
  have vx := h x hx (L 5 (x - 32)) axs
  rw [if_pos z, if_pos rfl] at vx
  have sl := sle_b hS (L 2 x).toNat (Nat.le_refl _)
  have elv : smG (fun j => VR u Z (mbrF L x j) (L 5 (x - 32))) (L 2 x).toNat = smG (leV L (VR u Z) x) (L 2 x).toNat := rfl
  rw [elv, wr_id (by omega)] at vx
  obtain ⟨s1, s2, s3, s4⟩ := shZ_e hS hRf (by omega) al (by rw [lt, vx]; omega) (c := zR u Z x (L 5 (x - 32))) (by omega) hz hnz hN
  have s1 : ∀ k : Int, 0 ≤ k → k < ((L 2 x).toNat : Int) → shZ T (up Z 13 (u x) 0) (u x) (zR u Z x (L 5 (x - 32))) 14 k = shV L (VR u Z) (zR u Z x (L 5 (x - 32))) x k := fun k h1 h2 => by rw [s1 k h1 h2]; exact (se k).symm
  have shb : ∀ k : Int, 0 ≤ k → k < L 2 x → 0 ≤ shV L (VR u Z) (zR u Z x (L 5 (x - 32))) x k ∧ shV L (VR u Z) (zR u Z x (L 5 (x - 32))) x k ≤ 400 := fun k h1 h2 => by
    have a1 := sb.1 k h1 (by omega)
    have a2 := smG_pos (f := shV L (VR u Z) (zR u Z x (L 5 (x - 32))) x) (m := (L 2 x).toNat) (k := k) sb.1 ⟨h1, by omega⟩
    have a3 : smG (shV L (VR u Z) (zR u Z x (L 5 (x - 32))) x) (L 2 x).toNat ≤ cel L (zR u Z x (L 5 (x - 32))) x := sb.2
    have a4 : 0 ≤ shV L (VR u Z) (zR u Z x (L 5 (x - 32))) x k := a1
    have ce : cel L (zR u Z x (L 5 (x - 32))) x ≤ zR u Z x (L 5 (x - 32)) := by unfold cel; omega
    omega
  have sp := (R.spl hx.1).mpr z
  have eb : bsT T (u x) = if L 5 (x - 32) = 0 then 1 else 0 := by
    unfold bsT
    by_cases y : L 5 (x - 32) = 0
    · rw [if_pos (t0.mpr y), if_pos y]
    · rw [if_neg (fun q => y (t0.mp q)), if_neg y]
  have e3 : ∀ (w : Nat) (i : Int), w ≠ 13 → w ≠ 14 → w ≠ 15 → shZ T (up Z 13 (u x) 0) (u x) (zR u Z x (L 5 (x - 32))) w i = Z w i := fun w i h13 h14 h15 => by rw [s3 w i h13 h14 h15, up_e, if_neg (by omega)]
  have b9 : (0 ≤ Z 9 (u x) ∧ Z 9 (u x) ≤ 20000) ∧ 0 ≤ Z 10 (u x) ∧ Z 10 (u x) ≤ 20000 := by
    have h0 := (hB 0 (Or.inl rfl)).1
    have h1 := (hB 1 (Or.inr rfl)).1
    have q0 : sR u Z x 0 = Z 9 (u x) := if_pos rfl
    have q1 : sR u Z x 1 = Z 10 (u x) := if_neg (by omega)
    rw [q0] at h0
    rw [q1] at h1
    omega
  obtain ⟨g1, g2, g3⟩ := bcG_e (T := T) (s := u x) (b := bsT T (u x)) (sh := shV L (VR u Z) (zR u Z x (L 5 (x - 32))) x) (L 2 x).toNat 0 (shZ T (up Z 13 (u x) 0) (u x) (zR u Z x (L 5 (x - 32)))) (fun j h1 h2 => by
    have sj := shb j (by omega) (by omega)
    exact ⟨by rw [kid j (by omega) (by omega)]; exact kself j (by omega) (by omega), s1 j (by omega) (by omega), sj.1, by omega⟩) (fun i j h1 h2 h3 h4 e => by
    rw [kid i (by omega) (by omega), kid j (by omega) (by omega)] at e
    exact kinj i j (by omega) (by omega) (by omega) (by omega) e) (by rw [e3 9 _ (by omega) (by omega) (by omega)]; omega) (by rw [e3 10 _ (by omega) (by omega) (by omega)]; omega) (by show 0 ≤ (0 : Int) ∧ (0 : Int) ≤ _; omega)
  have eX : bxS T Z (u x) = bcG T (u x) (bsT T (u x)) (L 2 x).toNat ((0 : Nat) : Int) (smG (fun i => shV L (VR u Z) (zR u Z x (L 5 (x - 32))) x i + 1) 0) (shZ T (up Z 13 (u x) 0) (u x) (zR u Z x (L 5 (x - 32)))) := by
    unfold bxS
    rw [if_pos sp, ex, kids]
    rfl
  rw [← eX] at g1 g2 g3
  generalize bxS T Z (u x) = X at *
  have xs : ∀ w, 9 ≤ w → w ≤ 12 → X w (u x) = Z w (u x) := fun w h1 h2 => by
    rw [g2 w _ (fun j j1 j2 => by rw [kid j (by omega) (by omega)]; exact (kself j (by omega) (by omega)).symm), e3 w _ (by omega) (by omega) (by omega)]
  have cs : ∀ k : Int, 0 ≤ k → k < L 2 x → sR u X (mbrF L x k) (L 5 (x - 32)) = sR u Z x (L 5 (x - 32)) + smG (fun j => shV L (VR u Z) (zR u Z x (L 5 (x - 32))) x j + 1) k.toNat ∧ zR u X (mbrF L x k) (L 5 (x - 32)) = shV L (VR u Z) (zR u Z x (L 5 (x - 32))) x k ∧
      sR u X (mbrF L x k) (1 - L 5 (x - 32)) = sR u Z x (1 - L 5 (x - 32)) ∧ zR u X (mbrF L x k) (1 - L 5 (x - 32)) = zR u Z x (1 - L 5 (x - 32)) := by
    intro k h1 h2
    obtain ⟨a1, a2, a3, a4⟩ := g1 k (by omega) (by omega)
    rw [kid k h1 h2, e3 9 _ (by omega) (by omega) (by omega), eb] at a1
    rw [kid k h1 h2, e3 10 _ (by omega) (by omega) (by omega), eb] at a2
    rw [kid k h1 h2, e3 11 _ (by omega) (by omega) (by omega), eb] at a3
    rw [kid k h1 h2, e3 12 _ (by omega) (by omega) (by omega), eb] at a4
    generalize shV L (VR u Z) (zR u Z x (L 5 (x - 32))) x = SH at a1 a2 a3 a4 ⊢
    clear g1 g2 g3 eX s1 s2 s3 s4 shb sb se hS hRf al vx elv
    unfold sR zR
    rcases axs with y | y
    · simp only [y] at a1 a2 a3 a4 ⊢
      simp at a1 a2 a3 a4 ⊢
      exact ⟨a1, a3, a2, a4⟩
    · simp only [y] at a1 a2 a3 a4 ⊢
      simp at a1 a2 a3 a4 ⊢
      exact ⟨a2, a4, a1, a3⟩
  have xz : ∀ ax, sR u X x ax = sR u Z x ax ∧ zR u X x ax = zR u Z x ax := fun ax => by
    unfold sR zR
    rw [xs 9 (by omega) (by omega), xs 10 (by omega) (by omega), xs 11 (by omega) (by omega), xs 12 (by omega) (by omega)]
    exact ⟨rfl, rfl⟩
  refine ⟨fun k h1 h2 => ?_, fun k h1 h2 => ?_, fun w o hw1 hw2 ho => ?_, fun w o hw => ?_, fun o => ?_, by rw [ex]; exact s4⟩
  · rw [(xz (L 5 (x - 32))).1, (xz (L 5 (x - 32))).2, (xz (1 - L 5 (x - 32))).1, (xz (1 - L 5 (x - 32))).2]
    exact cs k h1 h2
  · obtain ⟨a1, a2, a3, a4⟩ := cs k h1 h2
    obtain ⟨c1, c2, c3⟩ := ki k h1 h2
    have m := W.mem c1 (by omega)
    have rr := hr (mbrF L x k) m.1 m.2 (by rw [c2]; exact z1) (by rw [c2]; exact z2)
    rw [c2] at rr
    have sh := shb k h1 h2
    have pre : 0 ≤ smG (fun j => shV L (VR u Z) (zR u Z x (L 5 (x - 32))) x j + 1) k.toNat ∧ smG (fun j => shV L (VR u Z) (zR u Z x (L 5 (x - 32))) x j + 1) k.toNat ≤ 500 := by
      have t1 := smG_ge (fun j => shV L (VR u Z) (zR u Z x (L 5 (x - 32))) x j + 1) 0 k.toNat (fun j j1 j2 => by have := shb j j1 (by omega); show 0 ≤ shV L (VR u Z) (zR u Z x (L 5 (x - 32))) x j + 1; omega)
      have t2 := smG_pre (f := fun j => shV L (VR u Z) (zR u Z x (L 5 (x - 32))) x j + 1) (L 2 x).toNat k.toNat (by omega) (fun j j1 j2 => by have := shb j j1 (by omega); show 0 ≤ shV L (VR u Z) (zR u Z x (L 5 (x - 32))) x j + 1; omega)
      have t3 := smG_le (fun _ => (1 : Int)) 1 (L 2 x).toNat (fun _ _ _ => Int.le_refl _)
      have t4 : smG (fun j => shV L (VR u Z) (zR u Z x (L 5 (x - 32))) x j + 1) (L 2 x).toNat = smG (shV L (VR u Z) (zR u Z x (L 5 (x - 32))) x) (L 2 x).toNat + smG (fun _ => (1 : Int)) (L 2 x).toNat := smG_add (shV L (VR u Z) (zR u Z x (L 5 (x - 32))) x) (fun _ => 1) _
      have a3 : smG (shV L (VR u Z) (zR u Z x (L 5 (x - 32))) x) (L 2 x).toNat ≤ cel L (zR u Z x (L 5 (x - 32))) x := sb.2
      have ce : cel L (zR u Z x (L 5 (x - 32))) x ≤ zR u Z x (L 5 (x - 32)) := by unfold cel; omega
      omega
    intro ax ha
    have rm := hb (mbrF L x k)
    by_cases y : ax = L 5 (x - 32)
    · rw [y, a1, a2]
      omega
    · have y' : ax = 1 - L 5 (x - 32) := by omega
      rw [y', a3, a4]
      omega
  · rw [g2 w o (fun j j1 j2 => by rw [kid j (by omega) (by omega)]; exact ho j (by omega) (by omega)), e3 w o (by omega) (by omega) (by omega)]
  · rw [g3 w o (Or.inl hw), e3 w o (by omega) (by omega) (by omega)]
  · rw [g3 13 o (by omega), s2]
    by_cases y : o = u x
    · rw [if_pos y, if_pos y]; rfl
    · rw [if_neg y, if_neg y, up_e, if_neg (fun q => y q.2)]
end QU
