/-! THE QUESTIONS: whole -/
/-- sums over all that stands in the tree -/
def ndG (L : Mem) (F : Int → Int) (x : Int) : Int := if (16 ≤ x ∧ x < 47) ∧ L 0 x ≠ -1 ∧ L 0 x ≠ 48 then F x else 0
theorem sumQ {L : Mem} {F w : Int → Int} {q : Int} (h0 : 0 ≤ q) (hr : ∀ k : Int, 0 ≤ k → k < q → InT L (w k)) (hi : ∀ k l : Int, 0 ≤ k → k < q → 0 ≤ l → l < q → w k = w l → k = l) (ha : ∀ x : Int, InT L x → ∃ k : Int, 0 ≤ k ∧ k < q ∧ w k = x) :
    smG (fun k => F (w k)) q.toNat = smG (ndG L F) 49 := by
  have e := smG_name (f := ndG L F) (u := w) (fun _ => True) q.toNat 49
    (fun k h1 h2 _ => by have := (hr k h1 (by omega)).rg; omega)
    (fun k l h1 h2 h3 h4 _ _ e => hi k l h1 (by omega) h3 (by omega) e)
    (fun o h1 h2 h3 => by
      unfold ndG at h3
      by_cases z : (16 ≤ o ∧ o < 47) ∧ L 0 o ≠ -1 ∧ L 0 o ≠ 48
      · obtain ⟨k, k1, k2, k3⟩ := ha o ⟨⟨z.1, Or.inl z.2.1⟩, z.2.2⟩
        exact ⟨k, k1, by omega, trivial, k3⟩
      · rw [if_neg z] at h3; exact absurd rfl h3)
  rw [e]
  refine (smG_ext _ fun k h1 h2 => ?_).symm
  have hx := hr k h1 (by omega)
  have b := hx.rg
  have x0 : L 0 (w k) ≠ -1 := by have := hx.1.2; omega
  rw [if_pos trivial]
  unfold ndG
  rw [if_pos ⟨b, x0, hx.2⟩]
theorem sumO {L Q : Mem} (O : Ord L Q) (F : Int → Int) : smG (fun k => F (Q 2 k)) (Q 0 9).toNat = smG (ndG L F) 49 := sumQ O.n0.1 O.rng O.inj O.all
theorem piG_1 {u : Int → Int} {L T : Mem} {kq : Int} (R : Rl u L T (-1) kq) (s : Int) : ∀ m : Nat, m ≤ 16 → piG L s m = smG (isS T s) m
  | 0, _ => rfl
  | m + 1, hm => by
    have ih := piG_1 R s m (by omega)
    have st := R.stt (p := m) (by omega)
    unfold piG smG isS
    rw [ih, st]
    show _ = smG (isS T s) m + _
    split <;> omega
theorem cntS {u : Int → Int} {L T Q : Mem} (R : Rl u L T (-1) 1) (O : Ord L Q) : Q 0 10 = ctT T 2 + ctT T 3 := by
  have n0 := O.n0
  have e := smG_name (f := fun o => ind T 0 2 o + ind T 0 3 o) (u := fun k => u (Q 2 k)) (fun _ => True) (Q 0 9).toNat 32
    (fun k h1 h2 _ => R.rng _ (O.rng k h1 (by omega)).1)
    (fun k l h1 h2 h3 h4 _ _ e => O.inj k l h1 (by omega) h3 (by omega) (R.inj _ _ (O.rng k h1 (by omega)).1 (O.rng l h3 (by omega)).1 e))
    (fun o h1 h2 h3 => by
      have t1 : T 0 o = 2 ∨ T 0 o = 3 := by
        unfold ind at h3
        by_cases z : T 0 o = 2
        · exact Or.inl z
        · by_cases y : T 0 o = 3
          · exact Or.inr y
          · rw [if_neg z, if_neg y] at h3; exact absurd rfl h3
      obtain ⟨g, g1, rfl⟩ := R.sur o h1 (by omega) (by omega)
      have kg := R.knd g g1
      have gb := g1.1
      have : L 0 g ≠ 48 := by
        intro z
        unfold kindL at kg
        have := R.wf.spl g
        by_cases y : g < 32
        · rw [if_pos y, if_neg (by omega), if_pos z] at kg; omega
        · omega
      obtain ⟨k, k1, k2, k3⟩ := O.all g ⟨g1, this⟩
      exact ⟨k, k1, by omega, trivial, by rw [k3]⟩)
  unfold ctT
  rw [← smG_add, e, O.sp]
  refine smG_ext _ fun k h1 h2 => ?_
  have hx := O.rng k h1 (by omega)
  have kg := R.knd _ hx.1
  have gx := R.wf.axs (Q 2 k)
  have gb := hx.1.1
  have hx2 := hx.2
  show (if isZ (Q 2 k) then 1 else 0) = (if True then ind T 0 2 (u (Q 2 k)) + ind T 0 3 (u (Q 2 k)) else 0)
  rw [if_pos trivial]
  unfold ind
  rw [kg]
  unfold kindL isZ
  clear e hx O R kg
  (repeat' split) <;> omega
section QW
variable {N : Int} {mu : Mem} {c h t p b q r : Nat}
theorem wh_f (w : Int) : (if whF9 w = 1 then 2 else whF9 w) = frF w 0 11 := by unfold whF9 frF; (repeat' split) <;> omega
theorem wh_v (mu : Mem) (c p : Nat) : whF mu c p 0 = mu c 0 ∧ whF mu c p 1 = mu c 1 ∧ whF mu c p 2 = mu c 2 ∧ whF mu c p 3 = piG (lay mu (c + 2)) 1 (mu c 2).toNat ∧ whF mu c p 4 = piG (lay mu (c + 2)) 2 (mu c 2).toNat ∧ whF mu c p 5 = mu p 9 - mu p 10 ∧ whF mu c p 6 = mu p 10 ∧
    whF mu c p 7 = gL (lay mu (c + 2)) 2 48 ∧ whF mu c p 8 = lrF (pl mu p) 0 ∧ whF mu c p 9 = lrF (pl mu p) 1 ∧ whF mu c p 10 = mu p 11 ∧ whF mu c p 11 = mu p 12 := by simp [whF]
theorem wv_v (mu : Mem) (r : Nat) (T : Mem) (q : Int) (Z : Mem) : wvF mu r T q Z 0 = mu (r + 1) 0 ∧ wvF mu r T q Z 1 = mu (r + 1) 1 ∧ wvF mu r T q Z 2 = mu (r + 1) 2 ∧ wvF mu r T q Z 3 = smG (isS T 1) (mu (r + 1) 2).toNat ∧ wvF mu r T q Z 4 = smG (isS T 2) (mu (r + 1) 2).toNat ∧ wvF mu r T q Z 5 = ctT T 1 ∧ wvF mu r T q Z 6 = ctT T 2 + ctT T 3 ∧
    wvF mu r T q Z 7 = ctT T 4 ∧ wvF mu r T q Z 8 = (if q = 0 then 0 else Z 7 (Z 6 0)) ∧ wvF mu r T q Z 9 = (if q = 0 then 0 else Z 8 (Z 6 0)) ∧ wvF mu r T q Z 10 = smG (fun k => Z 13 (Z 6 k)) q.toNat ∧ wvF mu r T q Z 11 = smG (dvI T Z) q.toNat := by simp [wvF]
theorem O_whole (A : Inv N mu c h t p b r) {w : Int} (hf : frF w 0 11 = 0) : whF mu c p w = wvF mu r (trT mu r) (qW mu r) (zW mu r) w ∧ LyOk mu r (trT mu r) (zOf mu r) (mu (r + 1) 0) (mu (r + 1) 1) := by
  obtain ⟨e, P, Lr⟩ := A.base
  obtain ⟨u, rk, wn, K⟩ := A.look
  have hw : 0 ≤ w ∧ w ≤ 11 := by unfold frF at hf; split at hf <;> omega
  refine ⟨?_, K.ok⟩
  have R := K.rl
  have W := R.wf
  have D := K.pln.p0.od
  have Q := K.bxi.qe
  have t11 := K.pln.t11
  have t12 := K.pln.t12
  have wid := A.1.st.wid.1
  have hig := A.1.st.hig.1
  obtain ⟨a0, a1, a2, a3, a4, a5, a6, a7, a8, a9, a10, a11⟩ := wh_v mu c p
  obtain ⟨b0, b1, b2, b3, b4, b5, b6, b7, b8, b9, b10, b11⟩ := wv_v mu r (trT mu r) (qW mu r) (zW mu r)
  have n0 := D.n0
  have q0 := Q.n0
  have e9 : pl mu p 0 9 = mu p 9 := rfl
  have e10 : pl mu p 0 10 = mu p 10 := rfl
  have e11 : pl mu p 0 11 = mu p 11 := rfl
  have e12 : pl mu p 0 12 = mu p 12 := rfl
  have root : (0 < pl mu p 0 9 ↔ qW mu r ≠ 0) ∧ (0 < pl mu p 0 9 → InT (lay mu (c + 2)) (pl mu p 2 0) ∧ zW mu r 6 0 = u (pl mu p 2 0)) := by
    have r1 := D.root
    have r2 := D.none
    have r3 := Q.root
    have r4 := Q.none
    refine ⟨⟨fun h1 h2 => by have := r1 h1; have := r4 h2; omega, fun h1 => ?_⟩, fun h1 => ?_⟩
    · rcases Int.lt_or_le 0 (pl mu p 0 9) with z | z
      · exact z
      · have := r2 (by omega); have := r3 (by omega); omega
    · have x1 := r1 h1
      have hq : 0 < qW mu r := by
        rcases Int.lt_or_le 0 (qW mu r) with z | z
        · exact z
        · have := r4 (by omega); omega
      have x3 := r3 hq
      exact ⟨D.rng 0 (by omega) h1, by rw [Q.row 0 (by omega) hq, x3.2, x1.2]⟩
  have cas : w = 0 ∨ w = 1 ∨ w = 2 ∨ w = 3 ∨ w = 4 ∨ w = 5 ∨ w = 6 ∨ w = 7 ∨ w = 8 ∨ w = 9 ∨ w = 10 ∨ w = 11 := by omega
  rcases cas with rfl | rfl | rfl | rfl | rfl | rfl | rfl | rfl | rfl | rfl | rfl | rfl
  · rw [a0, b0, wid]
  · rw [a1, b1, hig]
  · rw [a2, b2, e]
  · rw [a3, b3, e]; exact piG_1 R 1 _ (by omega)
  · rw [a4, b4, e]; exact piG_1 R 2 _ (by omega)
  · rw [a5, b5]; exact cntG R D
  · rw [a6, b6]; exact cntS R D
  · rw [a7, b7, gL2 (by omega), R.floats]
  · rw [a8, b8]
    unfold lrF
    by_cases z : 0 < pl mu p 0 9
    · obtain ⟨x1, x2⟩ := root.2 z
      have bx := (K.box x1).1
      have rgx := x1.rg
      rw [if_pos z, if_neg (root.1.mp z), x2, gKr (P := pl mu p) (k := 2) (by omega) (by omega), gKr (by omega) (by omega), bx.1]
    · rw [if_neg z, if_pos (Classical.byContradiction fun h => z (root.1.mpr h))]
  · rw [a9, b9]
    unfold lrF
    by_cases z : 0 < pl mu p 0 9
    · obtain ⟨x1, x2⟩ := root.2 z
      have bx := (K.box x1).1
      have rgx := x1.rg
      rw [if_pos z, if_neg (root.1.mp z), x2, gKr (P := pl mu p) (k := 2) (by omega) (by omega), gKr (by omega) (by omega), bx.2]
    · rw [if_neg z, if_pos (Classical.byContradiction fun h => z (root.1.mpr h))]
  · rw [a10, b10, ← e11, t11]
    have s1 := sumO D (fun x => if isZ x then tgC (pl mu p) (lay mu (c + 2)) x else 0)
    have s2 := sumQ (F := fun x => zW mu r 13 (u x)) q0.1 Q.rng Q.inj Q.all
    have s3 : smG (fun k => zW mu r 13 (zW mu r 6 k)) (qW mu r).toNat = smG (fun k => (fun x => zW mu r 13 (u x)) (wn k)) (qW mu r).toNat := smG_ext _ fun k h1 h2 => by
      show zW mu r 13 (zW mu r 6 k) = zW mu r 13 (u (wn k))
      rw [Q.row k h1 (by omega)]
    rw [s3, s2]
    refine Eq.trans s1 (smG_ext _ fun x h1 h2 => ?_)
    unfold ndG
    by_cases z : (16 ≤ x ∧ x < 47) ∧ lay mu (c + 2) 0 x ≠ -1 ∧ lay mu (c + 2) 0 x ≠ 48
    · rw [if_pos z, if_pos z]
      have hx : InT (lay mu (c + 2)) x := ⟨⟨z.1, Or.inl z.2.1⟩, z.2.2⟩
      by_cases y : isZ x
      · show (if isZ x then _ else _) = _
        rw [if_pos y]
        exact ((K.box hx).2.2.2 y).2
      · show (if isZ x then _ else _) = _
        rw [if_neg y]
        obtain ⟨k, k1, k2, k3⟩ := Q.all x hx
        have ti := K.bxi.ti k k1 k2
        rw [k3, if_neg y] at ti
        exact ti.symm
    · rw [if_neg z, if_neg z]
  · rw [a11, b11, ← e12, t12]
    have s1 := sumO D (fun x => if isZ x then (lay mu (c + 2) 2 x - 1) * pl mu p 6 (2 * x + (1 - lay mu (c + 2) 5 (x - 32))) else 0)
    have s2 := sumQ (F := fun x => if spT (trT mu r) (u x) = 1 then (kdT (trT mu r) (u x) - 1) * (if trT mu r 0 (u x) = 2 then zW mu r 12 (u x) else zW mu r 11 (u x)) else 0) q0.1 Q.rng Q.inj Q.all
    have s3 : smG (dvI (trT mu r) (zW mu r)) (qW mu r).toNat = smG (fun k => (fun x => if spT (trT mu r) (u x) = 1 then (kdT (trT mu r) (u x) - 1) * (if trT mu r 0 (u x) = 2 then zW mu r 12 (u x) else zW mu r 11 (u x)) else 0) (wn k)) (qW mu r).toNat := smG_ext _ fun k h1 h2 => by
      unfold dvI
      rw [Q.row k h1 (by omega)]
    rw [s3, s2]
    refine Eq.trans s1 (smG_ext _ fun x h1 h2 => ?_)
    unfold ndG
    by_cases z : (16 ≤ x ∧ x < 47) ∧ lay mu (c + 2) 0 x ≠ -1 ∧ lay mu (c + 2) 0 x ≠ 48
    · rw [if_pos z, if_pos z]
      have hx : InT (lay mu (c + 2)) x := ⟨⟨z.1, Or.inl z.2.1⟩, z.2.2⟩
      have kn := R.knd x hx.1
      have bx := (K.box hx).2.2.1
      unfold kindL at kn
      by_cases y : isZ x
      · have y1 := y.1
        have y2 := y.2
        have ax := W.axs x y1 y2
        have kd := R.kids hx.1 y1
        rw [if_neg (show ¬ x < 32 by omega)] at kn
        have sp : spT (trT mu r) (u x) = 1 := by unfold spT; rw [if_pos (by omega)]
        show (if isZ x then _ else _) = (if _ then _ else _)
        rw [if_pos y, if_pos sp, kd, kn]
        rcases ax with a | a
        · rw [a, if_pos (by omega), show 2 * x + (1 - 0) = 2 * x + 1 by omega, bx.2]
        · rw [a, if_neg (by omega), show 2 * x + (1 - 1) = 2 * x + 0 by omega, bx.1]
      · have x32 : x < 32 := by
          rcases Int.lt_or_le x 32 with a | a
          · exact a
          · exact absurd ⟨a, z.1.2⟩ y
        rw [if_pos x32, if_neg (by omega), if_neg z.2.2] at kn
        have sp : ¬ spT (trT mu r) (u x) = 1 := by unfold spT; rw [if_neg (by omega)]; omega
        show (if isZ x then _ else _) = (if _ then _ else _)
        rw [if_neg y, if_neg sp]
    · rw [if_neg z, if_neg z]
end QW
