/-! WHAT IF: cellsIf on both sides -/
section CI
variable {N : Int} {mu : Mem} {c h t p b q r : Nat}
/-- rows of the trial plan do not count -/
theorem Inv.offb (O : Od c h t p b q r) (A : Inv N mu c h t p b r) {m : Mem} (R : R32 m) {M : Int} (hM : N ≤ M) (hba : BA M (rowsC c h b) m) (e : ∀ (x : Nat) (i : Int), (x ≤ b ∨ b + 8 < x) → (x < q ∨ q + 14 ≤ x) → m x i = mu x i) : Inv M m c h t p b r := by
  obtain ⟨A, -⟩ := A
  obtain ⟨o1, o2, o3, o4, o5, o6⟩ := O
  obtain ⟨a1, a2, a3, a4, ⟨rk, a5, a6⟩, a7⟩ := A
  have eL : Jvm.Pilot.CDockTreeLaw_law_r8737_963889.lay m (c + 2) = Jvm.Pilot.CDockTreeLaw_law_r8737_963889.lay mu (c + 2) := by
    funext k i
    show (if _ then _ else _) = (if _ then _ else _)
    by_cases z : k ≤ 7
    · rw [if_pos z, if_pos z]; exact e _ _ (by omega) (by omega)
    · rw [if_neg z, if_neg z]
  have ep : Jvm.Pilot.CDockTreeLaw_law_r8737_963889.pl m p = Jvm.Pilot.CDockTreeLaw_law_r8737_963889.pl mu p := by
    funext k i
    show (if _ then _ else _) = (if _ then _ else _)
    by_cases z : k < 14
    · rw [if_pos z, if_pos z]; exact e _ _ (by omega) (by omega)
    · rw [if_neg z, if_neg z]
  have ef : m (c + 1) = mu (c + 1) := funext fun i => e _ _ (by omega) (by omega)
  refine ⟨?_, R⟩
  rw [e r 4 (by omega) (by omega), e r 6 (by omega) (by omega)]
  refine CR.mk ?_ ?_ ?_ ?_ ⟨rk, ?_, ?_⟩ ?_
  · exact (a1.mono hM).off (fun x i h1 h2 => e x i (by omega) (by omega)) (fun i _ _ => e _ i (by omega) (by omega))
  · exact (a2.mono hM).off (fun x i h1 h2 => e x i (by omega) (by omega)) (fun i _ _ => e _ i (by omega) (by omega))
  · unfold TxR
    rw [e _ _ (by omega) (by omega)]
    exact ⟨a3.1, a3.2.1, fun i h1 h2 => by rw [e _ _ (by omega) (by omega), e _ _ (by omega) (by omega)]; exact a3.2.2 i h1 h2⟩
  · rw [e _ _ (by omega) (by omega)]; exact a4
  · rw [eL]; exact a5
  · rw [eL, ef, ep, e c 0 (by omega) (by omega), e c 1 (by omega) (by omega)]; exact a6
  · exact hba
theorem O_cells (O : Od c h t p b q r) (A : Inv N mu c h t p b r) (hN : 1000000 ≤ N ∧ N ≤ 9000000) {x y z : Int} (hf : fdF mu c x y z = 0) {mu1 : Mem} (e1 : mu1 = cb3 mu c b q x y z) :
    cbA mu c b q x y z = cmZ mu1 r x y z 11 (cmT mu1 r x y z 9 x) * phF (cmZ mu1 r x y z) (cmT mu1 r x y z 9 x) ∧ okC mu1 r x y z ∧ Inv (N + 20) mu1 c h t p b r ∧ MWo mu1 r := by
  have O' := O
  obtain ⟨o1, o2, o3, o4, o5, o6⟩ := O'
  have mw := A.mw (by omega)
  obtain ⟨e, P, Lr⟩ := A.base
  obtain ⟨f1, f2, f3, f4, f5⟩ := fd0 hf
  have bd := A.1.bd (by omega)
  have Bb : Bd N (lay (cb1 mu c b) b) := lay_cp8_bd (by omega) bd.1 bd.2.1
  have Bk : Bd (N + 20) (dkF (lay (cb1 mu c b) b) x y z) := (dkF_bd Bb (by omega) (by omega) y z).mono (by omega)
  have R2 : R32 (cb2 mu c b x y z) := R32_putL (R32_cp8 A.2 _ _ 8) (Bk.r32 (by omega))
  have Rq : R32 (pl (cb2 mu c b x y z) q) := fun k i => by
    unfold pl
    split
    · exact R2 _ _
    · omega
  have R1 : R32 mu1 := by rw [e1]; exact R32_putK R2 (wkF_R Rq _ _ _ _)
  have off2 : ∀ (v : Nat) (i : Int), (v ≤ b ∨ b + 8 < v) → cb2 mu c b x y z v i = mu v i := fun v i hv => by
    unfold cb2 cb1
    rw [putL_x (by omega), cp8_off i 8 (by omega)]
  have off : ∀ (v : Nat) (i : Int), (v ≤ b ∨ b + 8 < v) → (v < q ∨ q + 14 ≤ v) → mu1 v i = mu v i := fun v i h1 h2 => by
    rw [e1]
    show putK _ q 14 _ v i = _
    rw [putK_off h2, off2 v i h1]
  have B2 : BA (N + 20) (rowsC c h b) (cb2 mu c b x y z) := BA.putL ((A.1.ba.cp8 (fun k hk _ => Or.inl ⟨by omega, by omega⟩) 8 (by omega)).mono (by omega)) Bk
  have B1 : BA (N + 20) (rowsC c h b) mu1 := B2.off fun v i hv => by
    rw [e1]
    show putK _ q 14 _ v i = _
    exact putK_off (by unfold rowsC at hv; omega) i
  have c3 : ∀ (v : Nat) (i : Int), r ≤ v → mu1 v i = mu v i := fun v i hv => off v i (by omega) (by omega)
  have mw1 := mw.off R1 c3
  have eT := trT_off c3
  have st := A.1.st
  have ef : cb2 mu c b x y z (c + 1) = mu (c + 1) := funext fun i => off2 _ _ (by omega)
  have e2L : EqL (dkF (lay (cb1 mu c b) b) x y z) (lay (cb2 mu c b x y z) b) := fun k i hk _ _ => by
    rw [lay_e hk]
    show (if _ then _ else _) = _
    rw [if_pos (by omega)]
    congr 1
    omega
  have P2 : mu1 (r + 1) 2 = mu c 2 := by rw [c3 _ _ (by omega), e]
  have Rm : R32 (cm2 mu1 r x y z) := cm2_R R1 mw1.2.2.1 x y z
  have m1 : ∀ i : Int, cm2 mu1 r x y z (r + 1) i = mu (r + 1) i := fun i => by rw [cm2_a (by omega) (by omega), c3 _ _ (by omega)]
  have w0 : mu1 (r + 1) 0 = cb2 mu c b x y z c 0 := by rw [c3 _ _ (by omega), off2 _ _ (by omega)]; exact st.wid.1.symm
  have w1 : mu1 (r + 1) 1 = cb2 mu c b x y z c 1 := by rw [c3 _ _ (by omega), off2 _ _ (by omega)]; exact st.hig.1.symm
  have wd := st.wid
  have hi := st.hig
  have v0 : cb2 mu c b x y z c 0 = mu c 0 := off2 _ _ (by omega)
  have v1 : cb2 mu c b x y z c 1 = mu c 1 := off2 _ _ (by omega)
  obtain ⟨t1, t2, t3, t4, t5⟩ := trial_e (mr := cm2 mu1 r x y z) (r := r) (Z := zOf (cm2 mu1 r x y z) r) (Q := pl (cb2 mu c b x y z) q) (f := mu (c + 1)) (w := cb2 mu c b x y z c 0) (k := cb2 mu c b x y z c 1) Lr (by omega) (EqL_cp8 (mu := mu) (d := c + 2) (b := b) (by omega)) ⟨rfl, rfl, rfl⟩ e2L P f1 f2 f3 f4 f5 st.leB st.low (by omega) (by omega) Rq (zOf_R Rm r) Rm (by rw [m1, e]) (fun p ax h1 h2 ha => by
    have := (st.lst (2 * p + ax) (by omega) (by omega)).1
    unfold leR
    rw [m1, this]
    congr 1
    omega)
  rw [← w0, ← w1] at t3 t5
  rw [← eT, ← P2] at t2 t3 t4 t5
  refine ⟨?_, ⟨t2, t3, t4⟩, A.offb O R1 (by omega) B1 off, mw1⟩
  refine Eq.trans ?_ t5.1
  have eb : lay (cb3 mu c b q x y z) b = lay (cb2 mu c b x y z) b := lay_putK (by omega)
  have e6 : ∀ (i : Int), gK (pl (cb3 mu c b q x y z) q) 6 98 i = gK (wkF (pl (cb2 mu c b x y z) q) (lay (cb2 mu c b x y z) b) (mu (c + 1)) (mu1 (r + 1) 0) (mu1 (r + 1) 1)) 6 98 i := fun i => by
    have row : pl (cb3 mu c b q x y z) q 6 = wkF (pl (cb2 mu c b x y z) q) (lay (cb2 mu c b x y z) b) (mu (c + 1)) (mu1 (r + 1) 0) (mu1 (r + 1) 1) 6 := funext fun j => by
      show (if _ then _ else _) = _
      rw [if_pos (by omega), w0, w1, ← ef]
      exact putK_k (k := 6) (by omega) j
    unfold gK atF
    rw [row]
  unfold cbA rbF
  rw [eb, e6, e6]
end CI
