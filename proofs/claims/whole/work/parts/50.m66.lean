/-! WHAT IF: the reference after a trial -/
section CM
variable {N : Int} {mu : Mem} {c h t p b q r : Nat}
theorem Inv.cb (O : Od c h t p b q r) (A : Inv N mu c h t p b r) (hN : 0 ≤ N ∧ N ≤ 10000000) {x y z : Int} (hx : 0 ≤ x ∧ x < 16) (hy : 0 ≤ y ∧ y < 16) (ok : okC mu r x y z) {k : Int} (hk : 0 ≤ k ∧ k ≤ 3) : Inv N (up (cbM mu r x y z) r 7 k) c h t p b r ∧ up (cbM mu r x y z) r 7 k r 7 = k := by
  have mw := A.mw hN
  have hP := mw.2.2.1
  have hR2 := cm2_R A.2 hP x y z
  have hRZ := cmZ_R mw hx hy ok
  have hB2 : TB 10000003 (cmT mu r x y z) := dkT_TB mw.2.1 (by decide) hP hx hy ok.1
  have hq := ok.2.1.2.1
  have R3 : R32 (cm3 mu r x y z) := lyM_R hR2 hRZ hB2 (by omega) (q := cmq mu r x y z) (by unfold cmq cmT; unfold cmT at hq; omega)
  have Rb : R32 (cbM mu r x y z) := R32_cpF R3 _ _ _
  have e3 : ∀ (v : Nat) (i : Int), v ≠ r + 1 → (v < r ∨ (r < v ∧ v < r + 6 ∧ v ≠ r + 4) ∨ (v = r ∧ i < 8)) → cbM mu r x y z v i = mu v i := fun v i h1 h2 => by
    show cpF (cm3 mu r x y z) (r + 4) (r + 1) 1639 v i = _
    rw [cpF_off h1]
    show lyM (cm2 mu r x y z) r (cmT mu r x y z) (cmq mu r x y z) (cmZ mu r x y z) v i = _
    rw [lyM_x h1 (by omega)]
    unfold cm2 cm1
    rw [up_e, if_neg (by omega), cpF_off (by omega)]
  have e1 : ∀ i : Int, 0 ≤ i → i < 1639 → cbM mu r x y z (r + 1) i = mu (r + 1) i := fun i h1 h2 => by
    show (if _ then _ else _) = _
    rw [if_pos ⟨rfl, h1, h2⟩]
    show lyM (cm2 mu r x y z) r (cmT mu r x y z) (cmq mu r x y z) (cmZ mu r x y z) (r + 4) i = _
    rw [lyM_x (by omega) (by omega)]
    unfold cm2 cm1
    rw [up_a _ _ _ _ (by omega)]
    show (if _ then _ else _) = _
    rw [if_pos ⟨rfl, h1, h2⟩]
  refine ⟨⟨?_, R32_up Rb _ _ (by omega)⟩, by rw [up_e, if_pos ⟨rfl, rfl⟩]⟩
  have u4 : up (cbM mu r x y z) r 7 k r 4 = mu r 4 := by rw [up_e, if_neg (by omega), e3 _ _ (by omega) (by omega)]
  have u6 : up (cbM mu r x y z) r 7 k r 6 = mu r 6 := by rw [up_e, if_neg (by omega), e3 _ _ (by omega) (by omega)]
  rw [u4, u6]
  refine A.1.off O (fun v i hv => ?_) (fun i h1 h2 => ?_) (fun i h1 h2 => ?_) (fun i h1 h2 => ?_)
  · rw [up_a _ _ _ _ (by omega), e3 _ _ (by omega) (by omega)]
  · rw [up_a _ _ _ _ (by omega), e1 i h1 h2]
  · rw [up_a _ _ _ _ (by omega), e3 _ _ (by omega) (by omega)]
  · rw [up_a _ _ _ _ (by omega), e3 _ _ (by omega) (by omega)]
end CM
