/-! docking at another pane -/
theorem dock_tab {N : Int} {mu : Mem} {w : Nat} {L T : Mem} {P p t : Int} (A : Lr mu w L P (-1)) (B : LR N L T P) (hN : 1000 ≤ N) (hP : 0 ≤ P ∧ P ≤ 5) (hp : 0 ≤ p ∧ p < P) (ht : 0 ≤ t ∧ t < P) (hpt : p ≠ t) (hst : L 0 t ≠ -1) :
    ∃ mu' : Mem, jD mu w p t 4 mu' (dkF L p t 4 2 (dkF L p t 4 0 p)) ∧ Lr mu' w (dkF L p t 4) P (-1) ∧ Fr mu mu' w := by
  have H := B.ly9 hP
  have m13 := A.m13 H
  obtain ⟨m1, hK, A1, f1⟩ := take_e A H hp (by omega)
  obtain ⟨t0, t48⟩ := tk_facts B hp (by omega)
  have B1 := (B.take hp (by omega) (by omega)).1
  have H1 := B1.ly9 hP
  have k13 := A1.m13 H1
  have p0 : tkF L p 0 p = -1 := by rw [t0 p hp.1 (by omega), if_pos rfl]
  have kp := k13.2.2 p hp.1 hp.2 p0
  have e0 : tkF L p 0 t = L 0 t := by rw [t0 t ht.1 (by omega), if_neg (fun q => hpt q.symm)]
  have eD : dkF L p t 4 = up (insF (tkF L p) p (tkF L p 0 t) (tkF L p 2 (tkF L p 0 t))) 4 (tkF L p 0 t - 16) p := by
    have b := H1.wf.pan t ht.1 (by omega)
    unfold dkF
    rw [if_pos rfl, aL_0 ⟨ht.1, by omega⟩, aL_2 ⟨by omega, by omega⟩, pL_4 ⟨by omega, by omega⟩]
  rw [eD]
  have wf1 := H1.wf
  generalize tkF L p = L1 at *
  have b := wf1.pan t ht.1 (by omega)
  have lo := A1.low t ht.1 ht.2
  have ag := A1.grp t ht.1 ht.2
  rw [if_neg (by omega)] at ag
  generalize eg : L1 0 t = g at *
  have hp' : 0 ≤ p ∧ p < 49 := by omega
  have hg' : 16 ≤ g ∧ g < 49 := by omega
  have i0 := fun y => insF_0 (L := L1) (i := L1 2 g) hp' hg' y
  have i1 := fun y => insF_1 (L := L1) (i := L1 2 g) hp' hg' y
  have i2 := fun y => insF_2 (L := L1) (i := L1 2 g) hp' hg' y
  have ik := fun k (hk : 3 ≤ k) y => insF_k (L := L1) (i := L1 2 g) (k := k) hk hp' hg' y
  have u4 : ∀ (k : Nat) (y : Int), k ≠ 4 → up (insF L1 p g (L1 2 g)) 4 (g - 16) p k y = insF L1 p g (L1 2 g) k y := fun k y hk => up_a _ _ _ _ hk
  have M := wf1.mb
  have tb := A1.tabs M (g := g) ⟨by omega, by omega⟩ ⟨by omega, by omega⟩ (fun t t1 t2 e => H1.pan9 ⟨by omega, by omega⟩ ⟨t1, t2⟩ e)
  have T1 := wf1.tw9
  have own := wf1.own t ht.1 (by omega) (by omega) (by omega)
  rw [eg] at own
  have i1' : ∀ y : Int, 0 ≤ y → y < 49 → insF L1 p g (L1 2 g) 1 y = if y = p then L1 2 g else L1 1 y := fun y y1 y2 => by
    rw [i1]
    by_cases a : y = p
    · rw [if_pos a, if_pos a]
    · rw [if_neg a, if_neg a, if_neg (fun q => by
        have := M.rng y y1 y2 (by omega)
        rw [q.2.1] at this
        omega)]
  refine ⟨jDt m1 w p (g - 16), ⟨m1, hK, ⟨k13.1, by omega⟩, by omega, Or.inl ⟨rfl, by rw [ag], ?_⟩⟩, ?_, ?_⟩
  · rw [u4 _ _ (by omega), u4 _ _ (by omega), i0, if_pos rfl, i2, if_pos rfl, ag, tb]
  · have jr : ∀ (a : Nat) (i : Int), (a ≠ w + 2 ∨ (i ≠ 4 * p + 2 ∧ i ≠ 4 * p + 3 ∧ i ≠ 20 + (g - 16))) → jDt m1 w p (g - 16) a i = m1 a i := fun a i q => by
      unfold jDt
      rw [up_e, if_neg (by omega), up_e, if_neg (by omega), up_e, if_neg (by omega)]
    have j2 : jDt m1 w p (g - 16) (w + 2) (4 * p + 2) = g - 16 := by
      unfold jDt
      rw [up_e, if_neg (by omega), up_s]
    have j3 : jDt m1 w p (g - 16) (w + 2) (4 * p + 3) = L1 2 g := by
      unfold jDt
      rw [up_e, if_neg (by omega), up_e, if_neg (by omega), up_s, tb]
    have j20 : jDt m1 w p (g - 16) (w + 2) (20 + (g - 16)) = p := by
      unfold jDt
      exact up_s _ _ _ _
    refine Lr.mk ?_ ?_ (fun k h1 h2 => ?_) (fun k h1 h2 h3 => ?_) (fun x h1 h2 h3 => ?_) ?_ (fun t h1 h2 h3 => ?_) (fun k h1 h2 => ?_)
    · obtain ⟨o, c, S⟩ := A1.sg
      rw [jr w 3 (by omega), show jDt m1 w p (g - 16) (w + 1) = m1 (w + 1) from funext fun i => jr _ i (by omega)]
      have n : ∀ x : Int, 16 ≤ x → up (insF L1 p g (L1 2 g)) 4 (g - 16) p 0 x = L1 0 x := fun x hx => by rw [u4 _ _ (by omega), i0, if_neg (by omega)]
      refine ⟨o, c, S.cg (fun x => ?_) (fun x hx => n x hx.1.1) (fun x hx => ?_) (fun x h1 h2 => ?_) (fun x _ _ => ?_) (fun x _ _ => ?_) (fun _ _ _ => rfl) T1.hol⟩
      · constructor
        · intro hx; have := n x hx.1.1; have := hx.2; exact ⟨hx.1, by omega, by omega⟩
        · intro hx; have := n x hx.1.1; have := hx.2; exact ⟨hx.1, by omega, by omega⟩
      · have := hx.1
        rw [u4 _ _ (by omega), i1' x (by omega) (by omega), if_neg (by omega)]
      · rw [u4 _ _ (by omega), i2, if_neg (by omega)]
      · rw [u4 _ _ (by omega), ik 3 (by omega)]
      · rw [u4 _ _ (by omega), ik 5 (by omega)]
    · rw [jr w 2 (by omega)]; exact A1.np
    · rw [u4 _ _ (by omega), i0]
      by_cases z : k = p
      · rw [z, j2, if_pos rfl, if_neg (by omega)]
      · rw [jr _ _ (by omega), if_neg z]; exact A1.grp k h1 h2
    · rw [u4 _ _ (by omega), i0] at h3
      rw [u4 _ _ (by omega), i1' k h1 (by omega)]
      by_cases z : k = p
      · rw [z, j3, if_pos rfl]
      · rw [if_neg z] at h3
        rw [jr _ _ (by omega), if_neg z]; exact A1.pla k h1 h2 h3
    · rw [u4 _ _ (by omega), i0, if_neg (by omega)] at h3
      rw [up_e]
      by_cases z : x = g
      · rw [z, show (4 : Int) + g = 20 + (g - 16) by omega, j20, if_pos ⟨rfl, rfl⟩]
      · rw [jr _ _ (by omega), if_neg (by omega), ik 4 (by omega)]
        exact A1.act x h1 h2 h3
    · rw [jr _ _ (by omega), u4 _ _ (by omega), i2, if_neg (by omega)]; exact A1.flo
    · rw [u4 _ _ (by omega), i0, if_neg (by omega)] at h3
      rw [jr _ _ (by omega), u4 _ _ (by omega), i1' t (by omega) (by omega), if_neg (by omega)]; exact A1.fli t h1 h2 h3
    · rw [u4 _ _ (by omega), i0]
      have := A1.low k h1 h2
      split <;> omega
  · refine f1.tr ?_
    unfold jDt
    exact (((Fr.rf m1 w).up (Or.inr (Or.inr (Or.inr ⟨rfl, Or.inr (by omega)⟩)))).up (Or.inr (Or.inr (Or.inr ⟨rfl, Or.inr (by omega)⟩)))).up (Or.inr (Or.inr (Or.inr ⟨rfl, Or.inl (by omega)⟩)))
