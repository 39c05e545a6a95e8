/-! THE QUESTIONS: how many splits are tight at another size -/
section TI
variable {N : Int} {mu : Mem} {c h t p b q r : Nat}
/-- rows of the trial plan do not count -/
theorem Inv.offq (O : Od c h t p b q r) (A : Inv N mu c h t p b r) {m : Mem} (R : R32 m) (e : ∀ (x : Nat) (i : Int), x < q ∨ q + 14 ≤ x → m x i = mu x i) : Inv N m c h t p b r := by
  obtain ⟨A, -⟩ := A
  obtain ⟨o1, o2, o3, o4, o5, o6⟩ := O
  obtain ⟨a1, a2, a3, a4, ⟨rk, a5, a6⟩, a7⟩ := A
  have eL : Jvm.Pilot.CDockTreeLaw_law_r8737_963889.lay m (c + 2) = Jvm.Pilot.CDockTreeLaw_law_r8737_963889.lay mu (c + 2) := by
    funext k i
    show (if _ then _ else _) = (if _ then _ else _)
    by_cases z : k ≤ 7
    · rw [if_pos z, if_pos z]; exact e _ _ (by omega)
    · rw [if_neg z, if_neg z]
  have ep : Jvm.Pilot.CDockTreeLaw_law_r8737_963889.pl m p = Jvm.Pilot.CDockTreeLaw_law_r8737_963889.pl mu p := by
    funext k i
    show (if _ then _ else _) = (if _ then _ else _)
    by_cases z : k < 14
    · rw [if_pos z, if_pos z]; exact e _ _ (by omega)
    · rw [if_neg z, if_neg z]
  have ef : m (c + 1) = mu (c + 1) := funext fun i => e _ _ (by omega)
  refine ⟨?_, R⟩
  rw [e r 4 (by omega), e r 6 (by omega)]
  refine CR.mk ?_ ?_ ?_ ?_ ⟨rk, ?_, ?_⟩ ?_
  · exact a1.off (fun x i h1 h2 => e x i (by omega)) (fun i _ _ => e _ i (by omega))
  · exact a2.off (fun x i h1 h2 => e x i (by omega)) (fun i _ _ => e _ i (by omega))
  · unfold TxR
    rw [e _ _ (by omega)]
    exact ⟨a3.1, a3.2.1, fun i h1 h2 => by rw [e _ _ (by omega), e _ _ (by omega)]; exact a3.2.2 i h1 h2⟩
  · rw [e _ _ (by omega)]; exact a4
  · rw [eL]; exact a5
  · rw [eL, ef, ep, e c 0 (by omega), e c 1 (by omega)]; exact a6
  · exact a7.off (fun x i hx => e x i (by unfold rowsC at hx; omega))
/-- the splits that are tight, counted on both sides -/
theorem tightSum {u : Int → Int} {L T P Z : Mem} {f : Int → Int} {w k : Int} {rk : Int → Nat} {wn : Int → Int} {q : Int} (R : Rl u L T (-1) 1) (F : Fu L) (hf : LeB f) (hl : LeL f L) (hV : Vl L) (K : RK L rk) (A : PlE L f w k rk P) (B : BxI u L f w k rk q wn Z q) :
    P 0 11 = smG (fun k => Z 13 (Z 6 k)) q.toNat := by
  have Q := B.qe
  rw [A.t11]
  have s1 := sumO A.p0.od (fun x => if isZ x then tgC P L x else 0)
  have s2 := sumQ (F := fun x => Z 13 (u x)) Q.n0.1 Q.rng Q.inj Q.all
  have s3 : smG (fun k => Z 13 (Z 6 k)) q.toNat = smG (fun k => (fun x => Z 13 (u x)) (wn k)) q.toNat := smG_ext _ fun k h1 h2 => by
    show Z 13 (Z 6 k) = Z 13 (u (wn k))
    rw [Q.row k h1 (by have := Q.n0; omega)]
  rw [s3, s2]
  refine Eq.trans s1 (smG_ext _ fun x h1 h2 => ?_)
  unfold ndG
  by_cases z : (16 ≤ x ∧ x < 47) ∧ L 0 x ≠ -1 ∧ L 0 x ≠ 48
  · rw [if_pos z, if_pos z]
    have hx : InT L x := ⟨⟨z.1, Or.inl z.2.1⟩, z.2.2⟩
    by_cases y : isZ x
    · show (if isZ x then _ else _) = _
      rw [if_pos y]
      exact ((same R.wf F hf hl hV K.1 K.2 A B hx).2.2.2 y).2
    · show (if isZ x then _ else _) = _
      rw [if_neg y]
      obtain ⟨k, k1, k2, k3⟩ := Q.all x hx
      have ti := B.ti k k1 k2
      rw [k3, if_neg y] at ti
      exact ti.symm
  · rw [if_neg z, if_neg z]
theorem O_tight (O : Od c h t p b q r) (A : Inv N mu c h t p b r) (hN : 0 ≤ N ∧ N ≤ 10000000) {x y : Int} (hf : fwF x y = 0) {mu1 : Mem} (e1 : mu1 = wkR mu q (c + 2) (c + 1) x y) :
    mu1 q 11 = smG (fun k => laZ mu1 r (trT mu1 r) (zOf mu1 r) x y 13 (laZ mu1 r (trT mu1 r) (zOf mu1 r) x y 6 k)) (qW mu1 r).toNat ∧ LyOk mu1 r (trT mu1 r) (zOf mu1 r) x y ∧ Inv N mu1 c h t p b r ∧ MWo mu1 r := by
  obtain ⟨f1, f2⟩ := fw0 hf
  have mw := A.mw hN
  obtain ⟨e, P, Lr⟩ := A.base
  have O' := O
  obtain ⟨o1, o2, o3, o4, o5, o6⟩ := O'
  have Rq : R32 (pl mu q) := fun k i => by
    unfold pl
    split
    · exact A.2 _ _
    · omega
  have R1 : R32 mu1 := by rw [e1]; exact R32_putK A.2 (wkF_R Rq _ _ _ _)
  have off : ∀ (z : Nat) (i : Int), z < q ∨ q + 14 ≤ z → mu1 z i = mu z i := fun z i hz => by rw [e1]; exact putK_off hz i
  have I := A.offq O R1 off
  have c3 : ∀ (z : Nat) (i : Int), r ≤ z → mu1 z i = mu z i := fun z i hz => off z i (by omega)
  obtain ⟨rk, k1, -⟩ := A.1.pln
  obtain ⟨u, R⟩ := Lr.rl
  have st := A.1.st
  have E := wkF_e (P := pl mu q) R.wf Lr.fu st.leB st.leL Lr.vl Rq k1.1 k1.2 (w := x) (h := y) (by omega) (by omega)
  have hfr : ∀ p ax : Int, 0 ≤ p → p < 16 → (ax = 0 ∨ ax = 1) → leR mu1 r ax p = mu (c + 1) (2 * p + ax) := fun p ax h1 h2 ha => by
    have := (st.lst (2 * p + ax) (by omega) (by omega)).1
    unfold leR
    rw [c3 _ _ (by omega), this]
    congr 1
    omega
  have eT := trT_off c3
  rw [← eT] at R
  obtain ⟨⟨wn, B⟩, l1, l2, -⟩ := laZ_e (mu := mu1) (rr := r) (Z := zOf mu1 r) R Lr.fu st.leB st.leL Lr.vl (zOf_R R1 r) k1.1 k1.2 (w := x) (h := y) (by omega) (by omega) (by rw [c3 _ _ (by omega), e]; exact P) (by rw [c3 _ _ (by omega), e]; exact Lr.cl) hfr R1
  refine ⟨?_, ⟨R.so Lr.fu, by omega, l1⟩, I, mw.off R1 c3⟩
  rw [e1]
  show putK mu q 14 _ q 11 = _
  rw [putK_0 (by omega), ← e1]
  exact tightSum R Lr.fu st.leB st.leL Lr.vl k1 E B
end TI
