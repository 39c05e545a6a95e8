/-! WHAT IF: the trial layout -/
theorem LR.eL {N : Int} {L L' T : Mem} {P : Int} (A : LR N L T P) (h : EqL L L') (hP : 0 ≤ P) : LR N L' T P := by
  obtain ⟨⟨u, R⟩, F, C, V, B⟩ := A
  exact LR.mk ⟨u, R.c h (fun _ _ _ _ _ => rfl)⟩ (F.c h) (C.c h hP) (V.c h) B
theorem trial_e {N : Int} {L L1 L2 T Q Z mr : Mem} {P x y z w k : Int} {r : Nat} {f : Int → Int} (A : LR N L T P) (hN : 100 ≤ N) (e1 : EqL L L1) {x9 y9 z9 : Int} (ex : x9 = x ∧ y9 = y ∧ z9 = z) (e2 : EqL (dkF L1 x9 y9 z9) L2) (hP : 0 ≤ P ∧ P ≤ 16) (hx : 0 ≤ x ∧ x < P) (hy : 0 ≤ y ∧ y < P) (hxy : x ≠ y) (hz : 0 ≤ z ∧ z ≤ 4) (hst : sttF L y = 1 ∨ (sttF L y = 2 ∧ z = 4))
    (hf : LeB f) (hlow : ∀ p ax : Int, 0 ≤ p → p < P → (ax = 0 ∨ ax = 1) → 1 ≤ f (2 * p + ax)) (hw : 0 ≤ w ∧ w ≤ 400) (hk : 0 ≤ k ∧ k ≤ 400) (RQ : R32 Q) (RZ : R32Z Z) (Rm : R32 mr) (h2 : mr (r + 1) 2 = P) (hfr : ∀ p ax : Int, 0 ≤ p → p < 16 → (ax = 0 ∨ ax = 1) → leR mr r ax p = f (2 * p + ax)) :
    LR (N + 3) (L2) (dkT T P x y z) P ∧ okD T P x y z ∧ LyOk mr r (dkT T P x y z) Z w k ∧ 0 ≤ dkT T P x y z 9 x ∧
      gK (wkF Q (L2) f w k) 6 98 (2 * gL (L2) 0 x + 0) * rbF (wkF Q (L2) f w k) (gL (L2) 0 x) = laZ mr r (dkT T P x y z) Z w k 11 (dkT T P x y z 9 x) * phF (laZ mr r (dkT T P x y z) Z w k) (dkT T P x y z 9 x) ∧
      0 ≤ gK (wkF Q (L2) f w k) 6 98 (2 * gL (L2) 0 x + 0) * rbF (wkF Q (L2) f w k) (gL (L2) 0 x) ∧ gK (wkF Q (L2) f w k) 6 98 (2 * gL (L2) 0 x + 0) * rbF (wkF Q (L2) f w k) (gL (L2) 0 x) ≤ 160000 := by
  obtain ⟨ex1, ex2, ex3⟩ := ex
  subst ex1 ex2 ex3
  have A1 := A.eL e1 hP.1
  have st : sttF L1 y9 = sttF L y9 := by
    unfold sttF
    rw [aL_0 (L := L1) (i := y9) (by omega), aL_0 (L := L) (i := y9) (by omega), e1 0 y9 (by omega) hy.1 (by show y9 < 49; omega)]
    have pn := A.rl.choose_spec.wf.pan y9 hy.1 (by omega)
    by_cases q : L 0 y9 = -1
    · rw [if_pos q, if_pos q]
    · rw [if_neg q, if_neg q, aL_0 (L := L1) (by omega), aL_0 (L := L) (by omega), e1 0 _ (by omega) (by omega) (by show L 0 y9 < 49; omega)]
  rw [← st] at hst
  obtain ⟨l1, l2, l3⟩ := A1.dock hx hy hxy hz hP.2 hst hN
  have op0 := dkF_open A1 hx hy hxy hP.2 hst
  have op : L2 0 x9 ≠ -1 := by rw [e2 0 x9 (by omega) hx.1 (by show x9 < 49; omega)]; exact op0
  have l1 := l1.eL e2 hP.1
  generalize dkT T P x9 y9 z9 = T' at *
  generalize L2 = L' at *
  obtain ⟨⟨u, R⟩, F, C, V, B⟩ := l1
  have hl : LeL f L' := fun p ax h1 h3 ha h0 => by
    refine hlow p ax h1 ?_ ha
    rcases Int.lt_or_le p P with q | q
    · exact q
    · exact absurd (C p q h3) h0
  obtain ⟨rk, k1, k2⟩ := R.wf.rankB
  have E := wkF_e (P := Q) R.wf F hf hl V RQ k1 k2 hw hk
  obtain ⟨⟨wn, Bx9⟩, o1, o2, o3⟩ := laZ_e (mu := mr) (rr := r) (Z := Z) R F hf hl V RZ k1 k2 hw hk (by rw [h2]; exact hP) (by rw [h2]; exact C) hfr Rm
  have pr := R.wf.pan x9 hx.1 (by omega)
  have us := R.pus (p := x9) ⟨hx.1, by omega⟩ op
  have pa := R.pan x9 hx.1 (by omega)
  rw [if_neg op] at pa
  have ug := R.rng _ us
  refine ⟨LR.mk ⟨u, R⟩ F C V B, l2, ⟨R.so F, by omega, o1⟩, by omega, ?_⟩
  rw [gL0 (by omega), pa]
  have key : wkF Q L' f w k 6 (2 * L' 0 x9 + 0) = laZ mr r T' Z w k 11 (u (L' 0 x9)) ∧ wkF Q L' f w k 6 (2 * L' 0 x9 + 1) = laZ mr r T' Z w k 12 (u (L' 0 x9)) ∧ (0 ≤ wkF Q L' f w k 6 (2 * L' 0 x9 + 1) ∧ wkF Q L' f w k 6 (2 * L' 0 x9 + 1) ≤ 400) ∧ (0 ≤ wkF Q L' f w k 6 (2 * L' 0 x9 + 0) ∧ wkF Q L' f w k 6 (2 * L' 0 x9 + 0) ≤ 400) := by
    by_cases g : L' 0 (L' 0 x9) = 48
    · obtain ⟨f1, f2, f3, f4⟩ := o3 _ us g
      have t0 := E.p0.tp.flo (L' 0 x9) 0 (by omega) (by omega) g (Or.inl rfl)
      have t1 := E.p0.tp.flo (L' 0 x9) 1 (by omega) (by omega) g (Or.inr rfl)
      have v := V.flo (L' 0 x9) (by omega) (by omega) g 1 (Or.inr rfl)
      have v0 := V.flo (L' 0 x9) (by omega) (by omega) g 0 (Or.inl rfl)
      simp only [Int.add_zero] at t0 v0 ⊢
      rw [t0.2.1, t1.2.1, f3, f4]
      exact ⟨rfl, rfl, by omega, by omega⟩
    · have hgx : InT L' (L' 0 x9) := ⟨us, g⟩
      have bx := same R.wf F hf hl V k1 k2 E Bx9 hgx
      have bb := (E.bx _ hgx).1 1 (Or.inr rfl)
      have b0 := (E.bx _ hgx).1 0 (Or.inl rfl)
      exact ⟨bx.2.2.1.1, bx.2.2.1.2, bb.2, b0.2⟩
  have rb : 0 ≤ rbF (wkF Q L' f w k) (L' 0 x9) ∧ rbF (wkF Q L' f w k) (L' 0 x9) ≤ 400 := by
    have k2 := key.2.2.1
    unfold rbF
    rw [gKr (by omega) (by omega), wr_id (by omega)]
    omega
  rw [gKr (by omega) (by omega)]
  refine ⟨?_, Int.mul_nonneg key.2.2.2.1 rb.1, ?_⟩
  rotate_left
  · have := Int.mul_le_mul key.2.2.2.2 rb.2 rb.1 (by decide)
    omega
  rw [key.1]
  congr 1
  unfold rbF phF
  rw [gKr (by omega) (by omega), wr_id (by omega), ← key.2.1]
  split <;> omega
