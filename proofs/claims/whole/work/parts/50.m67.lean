/-! WHAT IF: bestSide on both sides -/
section BS
variable {N : Int} {mu : Mem} {c h t p b q r : Nat}
theorem Inv.cbo (O : Od c h t p b q r) (A : Inv N mu c h t p b r) (hN : 0 ≤ N ∧ N ≤ 10000000) {x y z : Int} (hx : 0 ≤ x ∧ x < 16) (hy : 0 ≤ y ∧ y < 16) (ok : okC mu r x y z) : Inv N (cbM mu r x y z) c h t p b r := by
  have mw := A.mw hN
  have hP := mw.2.2.1
  have hR2 := cm2_R A.2 hP x y z
  have hRZ := cmZ_R mw hx hy ok
  have hB2 : TB 10000003 (cmT mu r x y z) := dkT_TB mw.2.1 (by decide) hP hx hy ok.1
  have hq := ok.2.1.2.1
  have R3 : R32 (cm3 mu r x y z) := lyM_R hR2 hRZ hB2 (by omega) (q := cmq mu r x y z) (by unfold cmq cmT; unfold cmT at hq; omega)
  have Rb : R32 (cbM mu r x y z) := R32_cpF R3 _ _ _
  have e3 : ∀ (v : Nat) (i : Int), v ≠ r + 1 → (v < r ∨ (r < v ∧ v < r + 6 ∧ v ≠ r + 4) ∨ (v = r ∧ i < 8)) → cbM mu r x y z v i = mu v i := fun v i h1 h2 => by
    show cpF (cm3 mu r x y z) (r + 4) (r + 1) 1639 v i = _
    rw [cpF_off h1]
    show lyM (cm2 mu r x y z) r (cmT mu r x y z) (cmq mu r x y z) (cmZ mu r x y z) v i = _
    rw [lyM_x h1 (by omega)]
    unfold cm2 cm1
    rw [up_e, if_neg (by omega), cpF_off (by omega)]
  refine ⟨?_, Rb⟩
  have u4 : cbM mu r x y z r 4 = mu r 4 := e3 _ _ (by omega) (by omega)
  have u6 : cbM mu r x y z r 6 = mu r 6 := e3 _ _ (by omega) (by omega)
  rw [u4, u6]
  exact A.1.off O (fun v i hv => e3 _ _ (by omega) (by omega)) (fun i h1 h2 => cbM_1 mu r x y z i) (fun i h1 h2 => e3 _ _ (by omega) (by omega)) (fun i h1 h2 => e3 _ _ (by omega) (by omega))
theorem Inv.up7 (O : Od c h t p b q r) (A : Inv N mu c h t p b r) {k : Int} (hk : 0 ≤ k ∧ k ≤ 3) : Inv N (up mu r 7 k) c h t p b r ∧ up mu r 7 k r 7 = k := by
  refine ⟨A.bad O (fun x i h1 h2 => ?_) (R32_up A.2 _ _ (by omega)), by rw [up_e, if_pos ⟨rfl, rfl⟩]⟩
  rw [up_e, if_neg (by omega)]
/-- the class at mu, the reference at another memory with the same row -/
theorem O_cellsX (O : Od c h t p b q r) (A : Inv N mu c h t p b r) (hN : 1000000 ≤ N ∧ N ≤ 9000000) {x y z : Int} (hf : fdF mu c x y z = 0) {n : Mem} (Rn : R32 n) (mwn : MWo n r) (en : ∀ i : Int, n (r + 1) i = mu (r + 1) i) :
    cbA mu c b q x y z = cbE n r x y z ∧ okC n r x y z ∧ 0 ≤ cbA mu c b q x y z ∧ cbA mu c b q x y z ≤ 160000 := by
  have O' := O
  obtain ⟨o1, o2, o3, o4, o5, o6⟩ := O'
  obtain ⟨e, P, Lr⟩ := A.base
  obtain ⟨f1, f2, f3, f4, f5⟩ := fd0 hf
  have bd := A.1.bd (by omega)
  have Bb : Bd N (lay (cb1 mu c b) b) := lay_cp8_bd (by omega) bd.1 bd.2.1
  have Bk : Bd (N + 20) (dkF (lay (cb1 mu c b) b) x y z) := (dkF_bd Bb (by omega) (by omega) y z).mono (by omega)
  have R2 : R32 (cb2 mu c b x y z) := R32_putL (R32_cp8 A.2 _ _ 8) (Bk.r32 (by omega))
  have Rq : R32 (pl (cb2 mu c b x y z) q) := fun k i => by
    unfold pl
    split
    · exact R2 _ _
    · omega
  have off2 : ∀ (v : Nat) (i : Int), (v ≤ b ∨ b + 8 < v) → cb2 mu c b x y z v i = mu v i := fun v i hv => by
    unfold cb2 cb1
    rw [putL_x (by omega), cp8_off i 8 (by omega)]
  have eT : trT n r = trT mu r := by rw [trS_T, trS_T, show n (r + 1) = mu (r + 1) from funext en]
  have st := A.1.st
  have ef : cb2 mu c b x y z (c + 1) = mu (c + 1) := funext fun i => off2 _ _ (by omega)
  have e2L : EqL (dkF (lay (cb1 mu c b) b) x y z) (lay (cb2 mu c b x y z) b) := fun k i hk _ _ => by
    rw [lay_e hk]
    show (if _ then _ else _) = _
    rw [if_pos (by omega)]
    congr 1
    omega
  have P2 : n (r + 1) 2 = mu c 2 := by rw [en, e]
  have Rm : R32 (cm2 n r x y z) := cm2_R Rn mwn.2.2.1 x y z
  have m1 : ∀ i : Int, cm2 n r x y z (r + 1) i = mu (r + 1) i := fun i => by rw [cm2_a (by omega) (by omega), en]
  have w0 : n (r + 1) 0 = cb2 mu c b x y z c 0 := by rw [en, off2 _ _ (by omega)]; exact st.wid.1.symm
  have w1 : n (r + 1) 1 = cb2 mu c b x y z c 1 := by rw [en, off2 _ _ (by omega)]; exact st.hig.1.symm
  have wd := st.wid
  have hi := st.hig
  have v0 : cb2 mu c b x y z c 0 = mu c 0 := off2 _ _ (by omega)
  have v1 : cb2 mu c b x y z c 1 = mu c 1 := off2 _ _ (by omega)
  obtain ⟨t1, t2, t3, t4, t5⟩ := trial_e (mr := cm2 n r x y z) (r := r) (Z := zOf (cm2 n r x y z) r) (Q := pl (cb2 mu c b x y z) q) (f := mu (c + 1)) (w := cb2 mu c b x y z c 0) (k := cb2 mu c b x y z c 1) Lr (by omega) (EqL_cp8 (mu := mu) (d := c + 2) (b := b) (by omega)) ⟨rfl, rfl, rfl⟩ e2L P f1 f2 f3 f4 f5 st.leB st.low (by omega) (by omega) Rq (zOf_R Rm r) Rm (by rw [m1, e]) (fun p ax h1 h2 ha => by
    have := (st.lst (2 * p + ax) (by omega) (by omega)).1
    unfold leR
    rw [m1, this]
    congr 1
    omega)
  rw [← w0, ← w1] at t3 t5
  rw [← eT, ← P2] at t2 t3 t4 t5
  have eb : lay (cb3 mu c b q x y z) b = lay (cb2 mu c b x y z) b := lay_putK (by omega)
  have row : pl (cb3 mu c b q x y z) q 6 = wkF (pl (cb2 mu c b x y z) q) (lay (cb2 mu c b x y z) b) (mu (c + 1)) (n (r + 1) 0) (n (r + 1) 1) 6 := funext fun j => by
    show (if _ then _ else _) = _
    rw [if_pos (by omega), w0, w1, ← ef]
    exact putK_k (k := 6) (by omega) j
  have e6 : ∀ (i : Int), gK (pl (cb3 mu c b q x y z) q) 6 98 i = gK (wkF (pl (cb2 mu c b x y z) q) (lay (cb2 mu c b x y z) b) (mu (c + 1)) (n (r + 1) 0) (n (r + 1) 1)) 6 98 i := fun i => by
    unfold gK atF
    rw [row]
  have key : cbA mu c b q x y z = gK (wkF (pl (cb2 mu c b x y z) q) (lay (cb2 mu c b x y z) b) (mu (c + 1)) (n (r + 1) 0) (n (r + 1) 1)) 6 98 (2 * gL (lay (cb2 mu c b x y z) b) 0 x + 0) * rbF (wkF (pl (cb2 mu c b x y z) q) (lay (cb2 mu c b x y z) b) (mu (c + 1)) (n (r + 1) 0) (n (r + 1) 1)) (gL (lay (cb2 mu c b x y z) b) 0 x) := by
    unfold cbA rbF
    rw [eb, e6, e6]
  rw [key]
  exact ⟨t5.1, ⟨t2, t3, t4⟩, t5.2⟩
theorem O_best_f (A : Inv N mu c h t p b r) (x y : Int) : bsF9 (trT mu r) (mu (r + 1) 2) x y = fdF mu c x y 0 := by
  obtain ⟨e, P, -⟩ := A.base
  unfold bsF9 fdF
  rw [e]
  by_cases h1 : 0 ≤ x ∧ x < mu c 2
  · by_cases h2 : 0 ≤ y ∧ y < mu c 2
    · have := sttF_b (lay mu (c + 2)) y
      rw [if_pos (show pnF mu c x = 1 ∧ pnF mu c y = 1 from ⟨pn1.mpr h1, pn1.mpr h2⟩), A.sx (x := y) (by omega)]
      (repeat' split) <;> omega
    · rw [if_pos (by omega), if_neg (fun w => h2 (pn1.mp w.2))]
  · rw [if_pos (by omega), if_neg (fun w => h1 (pn1.mp w.1))]
theorem fd0z {x y z : Int} (hf : fdF mu c x y 0 = 0) (hz : 0 ≤ z ∧ z ≤ 3) : fdF mu c x y z = 0 := by
  obtain ⟨f1, f2, f3, f4, f5⟩ := fd0 hf
  unfold fdF
  rw [if_pos ⟨pn1.mpr f1, pn1.mpr f2⟩, if_neg (by omega), if_pos (by omega)]
theorem cb3_off {x y z : Int} {v : Nat} (h1 : v ≤ b ∨ b + 8 < v) (h2 : v < q ∨ q + 14 ≤ v) (i : Int) : cb3 mu c b q x y z v i = mu v i := by
  show putK _ q 14 _ v i = _
  rw [putK_off h2]
  unfold cb2 cb1
  rw [putL_x (by omega), cp8_off i 8 (by omega)]
theorem fdF_same {m m' : Mem} {x y z : Int} (e1 : m' c 2 = m c 2) (e2 : lay m' (c + 2) = lay m (c + 2)) : fdF m' c x y z = fdF m c x y z := by
  unfold fdF pnF
  rw [e2]
  simp only [e1]
theorem bs_cls (O : Od c h t p b q r) (A : Inv N mu c h t p b r) (hN : 1000000 ≤ N ∧ N ≤ 8000000) {x y : Int} (hf : fdF mu c x y 0 = 0) : ∀ j : Nat, j ≤ 4 →
    Inv (N + 20 * (j : Int)) (bsG mu c b q x y j).1 c h t p b r ∧ fdF (bsG mu c b q x y j).1 c x y 0 = 0 ∧ ∀ (v : Nat) (i : Int), r ≤ v → (bsG mu c b q x y j).1 v i = mu v i
  | 0, _ => ⟨by rw [show N + 20 * ((0 : Nat) : Int) = N by omega]; exact A, hf, fun _ _ _ => rfl⟩
  | j + 1, hj => by
    obtain ⟨a1, a2, a3⟩ := bs_cls O A hN hf j (by omega)
    have o := O_cells O a1 (by omega) (fd0z (z := (j : Int)) a2 (by omega)) rfl
    obtain ⟨o1, o2, o3, o4, o5, o6⟩ := O
    refine ⟨?_, ?_, fun v i hv => ?_⟩
    · rw [show N + 20 * ((j + 1 : Nat) : Int) = N + 20 * (j : Int) + 20 by omega]
      exact o.2.2.1
    · rw [bsG]
      refine (fdF_same (m := (bsG mu c b q x y j).1) (cb3_off ?_ ?_ 2) (lay_cb3 ?_ ?_ x y (j : Int))).trans a2 <;> omega
    · rw [bsG]
      dsimp only
      rw [cb3_off (by omega) (by omega)]
      exact a3 v i hv
theorem bs_ref (O : Od c h t p b q r) (A : Inv N mu c h t p b r) (hN : 1000000 ≤ N ∧ N ≤ 8000000) {x y : Int} (hf : fdF mu c x y 0 = 0) : ∀ j : Nat, j ≤ 3 →
    Inv (N + 80) (bsG9 r x y (bsG mu c b q x y 4).1 j).1 c h t p b r ∧ (∀ i : Int, (bsG9 r x y (bsG mu c b q x y 4).1 j).1 (r + 1) i = mu (r + 1) i) ∧ (bsG mu c b q x y (j + 1)).2 = (bsG9 r x y (bsG mu c b q x y 4).1 j).2
  | 0, _ => by
    obtain ⟨a1, a2, a3⟩ := bs_cls (q := q) O A hN hf 4 (by omega)
    obtain ⟨f1, f2, f3, f4, f5⟩ := fd0 hf
    have P := A.base.2.1
    have o := O_cellsX (q := q) O A (by omega) hf a1.2 (a1.mw (by omega)) (fun i => a3 _ i (by omega))
    refine ⟨?_, fun i => ?_, ?_⟩
    · rw [show N + 80 = N + 20 * ((4 : Nat) : Int) by omega]
      exact a1.cbo O (by omega) (by omega) (by omega) o.2.1
    · show cbM (bsG mu c b q x y 4).1 r x y 0 (r + 1) i = _
      rw [cbM_1]; exact a3 _ i (by omega)
    · have w : wr (cbA mu c b q x y 0) = cbA mu c b q x y 0 := wr_id (by omega)
      rw [bsG, bsG, bsG9]
      dsimp only
      rw [show ((0 : Nat) : Int) = 0 from rfl, w, ← o.1, w, if_pos (by omega), if_pos (by omega)]
  | j + 1, hj => by
    obtain ⟨b1, b2, b3⟩ := bs_ref O A hN hf j (by omega)
    obtain ⟨a1, a2, a3⟩ := bs_cls (q := q) O A hN hf (j + 1) (by omega)
    obtain ⟨f1, f2, f3, f4, f5⟩ := fd0 hf
    have P := A.base.2.1
    have cj : ((j + 1 : Nat) : Int) = (j : Int) + 1 := by omega
    have o := O_cellsX (q := q) O a1 (by omega) (fd0z (z := (j : Int) + 1) a2 (by omega)) b1.2 (b1.mw (by omega)) (fun i => by rw [b2]; exact (a3 _ i (by omega)).symm)
    refine ⟨?_, fun i => ?_, ?_⟩
    · rw [bsG9]
      exact b1.cbo O (by omega) (by omega) (by omega) o.2.1
    · rw [bsG9]
      dsimp only
      rw [cbM_1]; exact b2 i
    · rw [bsG, bsG9]
      dsimp only
      rw [cj, o.1, b3]
theorem O_best (O : Od c h t p b q r) (A : Inv N mu c h t p b r) (hN : 1000000 ≤ N ∧ N ≤ 8000000) {x y : Int} (hf : fdF mu c x y 0 = 0) {mu1 : Mem} (e1 : mu1 = (bsG mu c b q x y 4).1) :
    (bsG mu c b q x y 4).2.1 = (bsG9 r x y mu1 3).2.1 ∧ (okC mu1 r x y 0 ∧ ∀ j : Nat, j < 3 → MWo (bsG9 r x y mu1 j).1 r ∧ okC (bsG9 r x y mu1 j).1 r x y ((j : Int) + 1)) ∧ bsF9 (trT mu1 r) (mu1 (r + 1) 2) x y = 0 ∧ MWo mu1 r ∧
      Inv (N + 80) (up (bsG9 r x y mu1 3).1 r 7 0) c h t p b r ∧ up (bsG9 r x y mu1 3).1 r 7 0 r 7 = 0 := by
  subst e1
  obtain ⟨a1, a2, a3⟩ := bs_cls (q := q) O A hN hf 4 (by omega)
  obtain ⟨r1, r2, r3⟩ := bs_ref (q := q) O A hN hf 3 (by omega)
  have o := O_cellsX (q := q) O A (by omega) hf a1.2 (a1.mw (by omega)) (fun i => a3 _ i (by omega))
  refine ⟨congrArg Prod.fst r3, ⟨o.2.1, fun j hj => ?_⟩, ?_, a1.mw (by omega), r1.up7 O (by omega)⟩
  · obtain ⟨b1, b2, b3⟩ := bs_ref (q := q) O A hN hf j (by omega)
    obtain ⟨g1, g2, g3⟩ := bs_cls (q := q) O A hN hf (j + 1) (by omega)
    have o9 := O_cellsX (q := q) O g1 (by omega) (fd0z (z := (j : Int) + 1) g2 (by omega)) b1.2 (b1.mw (by omega)) (fun i => by rw [b2]; exact (g3 _ i (by omega)).symm)
    exact ⟨b1.mw (by omega), o9.2.1⟩
  · rw [O_best_f a1, a2]
end BS
