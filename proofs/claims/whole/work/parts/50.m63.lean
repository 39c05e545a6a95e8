/-! THE QUESTIONS: paneAt -/
section PB
variable {N : Int} {mu : Mem} {c h t p b q r : Nat}
theorem ftG_e {L P : Mem} {x y : Int} : ∀ m : Nat, ((∀ k : Int, 0 ≤ k → k < m → cvF P (mo P 48 k) x y ≠ 1) ∧ ftG L P x y m = gL L 4 (tgF P x y - 16)) ∨
    (∃ k : Int, (0 ≤ k ∧ k < m) ∧ cvF P (mo P 48 k) x y = 1 ∧ (∀ l : Int, k < l → l < m → cvF P (mo P 48 l) x y ≠ 1) ∧ ftG L P x y m = gL L 4 (mo P 48 k - 16))
  | 0 => Or.inl ⟨fun k h1 h2 => by omega, rfl⟩
  | m + 1 => by
    have ih := ftG_e (L := L) (P := P) (x := x) (y := y) m
    unfold ftG
    by_cases z : cvF P (mo P 48 m) x y = 1
    · rw [if_pos z]
      exact Or.inr ⟨m, by omega, z, fun l h1 h2 => by omega, rfl⟩
    · rw [if_neg z]
      rcases ih with ⟨a1, a2⟩ | ⟨k, k1, k2, k3, k4⟩
      · refine Or.inl ⟨fun k h1 h2 => ?_, a2⟩
        by_cases e : k = m
        · rw [e]; exact z
        · exact a1 k h1 (by omega)
      · refine Or.inr ⟨k, by omega, k2, fun l h1 h2 => ?_, k4⟩
        by_cases e : l = m
        · rw [e]; exact z
        · exact k3 l h1 (by omega)
theorem O_at (A : Inv N mu c h t p b r) {x y : Int} (hf : fpaF mu c x y = 0) : patF (lay mu (c + 2)) (pl mu p) x y = ptV (trT mu r) (zW mu r) x y ∧ LyOk mu r (trT mu r) (zOf mu r) (mu (r + 1) 0) (mu (r + 1) 1) := by
  obtain ⟨u, rk, wn, K⟩ := A.look
  have wd := A.1.st.wid
  have hi := A.1.st.hig
  have hxy : (0 ≤ x ∧ x ≤ 1000) ∧ 0 ≤ y ∧ y ≤ 1000 := by unfold fpaF at hf; split at hf <;> omega
  refine ⟨?_, K.ok⟩
  have R := K.rl
  have W := R.wf
  have D := K.pln.p0.od
  have n0 := D.n0
  have M := K.pln.p0.mt
  have n48 := W.mb.nng 48 (by omega) (by omega)
  have c48 := W.cnt16 K.fu (h := 48) ⟨by omega, by omega⟩
  have cv := fun (g : Int) hg h32 => K.cv (x := x) (y := y) hxy.1 hxy.2 (g := g) hg h32
  have k4 : ∀ g : Int, Us (lay mu (c + 2)) (-1) g → (trT mu r 0 (u g) = 4 ↔ lay mu (c + 2) 0 g = 48) ∧ (trT mu r 0 (u g) = 1 ↔ g < 32 ∧ lay mu (c + 2) 0 g ≠ 48) := by
    intro g hg
    have kg := R.knd g hg
    have gb := hg.1
    have a1 := W.spl g
    have a2 := W.axs g
    have a3 := hg.2
    unfold kindL at kg
    rw [kg]
    by_cases z : g < 32
    · rw [if_pos z, if_neg (by omega)]
      by_cases w : lay mu (c + 2) 0 g = 48
      · rw [if_pos w]; omega
      · rw [if_neg w]; omega
    · rw [if_neg z]; omega
  have fl : ∀ k : Int, 0 ≤ k → k < lay mu (c + 2) 2 48 → mo (pl mu p) 48 k = mbrF (lay mu (c + 2)) 48 k ∧ Us (lay mu (c + 2)) (-1) (mbrF (lay mu (c + 2)) 48 k) ∧ mbrF (lay mu (c + 2)) 48 k < 32 ∧ lay mu (c + 2) 0 (mbrF (lay mu (c + 2)) 48 k) = 48 ∧ lay mu (c + 2) 1 (mbrF (lay mu (c + 2)) 48 k) = k := by
    intro k h1 h2
    obtain ⟨m1, m2, m3⟩ := mbrF_get W.mb (h := 48) (i := k) (by omega) ⟨h1, h2⟩
    have us := W.usd (t := mbrF (lay mu (c + 2)) 48 k) m1 (by omega)
    have sp := W.spl (mbrF (lay mu (c + 2)) 48 k)
    have ub := us.1
    exact ⟨moT_e M (by omega) (by omega), us, by omega, m2, m3⟩
  have neg : gL (lay mu (c + 2)) 4 (-1 - 16) = -1 := by unfold gL gK; rw [wr_id (by omega)]; exact if_neg (by omega)
  unfold patF ptV
  rw [gL2 (by omega)]
  have F := ftG_e (L := lay mu (c + 2)) (P := pl mu p) (x := x) (y := y) (lay mu (c + 2) 2 48).toNat
  rcases tpG_e (T := trT mu r) (Z := zW mu r) (x := x) (y := y) 32 with ⟨t1, t2⟩ | ⟨t1, ⟨t2, t3⟩, t4⟩
  · rw [show pnT (trT mu r) (zW mu r) x y = laG (trI (trT mu r) (zW mu r) x y) 32 by unfold pnT; rw [t1]; exact if_neg (fun h => h rfl)]
    have F1 : ftG (lay mu (c + 2)) (pl mu p) x y (lay mu (c + 2) 2 48).toNat = gL (lay mu (c + 2)) 4 (tgF (pl mu p) x y - 16) := by
      rcases F with ⟨-, f2⟩ | ⟨k, k1, k2, -⟩
      · exact f2
      · exfalso
        obtain ⟨e1, e2, e3, e4, e5⟩ := fl k k1.1 (by omega)
        rw [e1] at k2
        have ug := R.rng _ e2
        exact t2 _ ug.1 (by omega) ⟨(k4 _ e2).1.mpr e4, (cv _ e2 e3).2.mpr ((cv _ e2 e3).1.mp k2)⟩
    rw [F1]
    have hit : ∀ o : Int, 0 ≤ o → o < 32 → trI (trT mu r) (zW mu r) x y o = 1 → ∃ g : Int, InT (lay mu (c + 2)) g ∧ g < 32 ∧ u g = o ∧ cov (pl mu p) (fun ax => if ax = 0 then x else y) g := by
      intro o h1 h2 h3
      unfold trI at h3
      split at h3
      · rename_i w
        obtain ⟨g, g1, rfl⟩ := R.sur o h1 h2 (by omega)
        have kk := (k4 g g1).2.mp w.1
        exact ⟨g, ⟨g1, kk.2⟩, kk.1, rfl, (cv g g1 kk.1).2.mp w.2⟩
      · omega
    have T9 := tgG_e (P := pl mu p) (x := x) (y := y) (n := (pl mu p 0 9).toNat) (by omega) (pl mu p 0 9).toNat 0 (by omega)
    have eT : tgF (pl mu p) x y = tgG (pl mu p) x y (pl mu p 0 9).toNat 0 := rfl
    rcases T9 with ⟨a1, a2⟩ | ⟨k, k1, k2, k3, k5⟩
    · rw [eT, a1, neg]
      rcases laG_e (f := trI (trT mu r) (zW mu r) x y) 32 with ⟨l1, -⟩ | ⟨l1, l2⟩
      · rw [l1, if_pos rfl]
      · exfalso
        obtain ⟨g, g1, g2, g3, g4⟩ := hit _ l1.1 (by omega) l2
        obtain ⟨k, k1, k2, k3⟩ := D.all g g1
        exact a2 k (by omega) (by omega) ⟨by rw [k3]; omega, by rw [k3]; exact (cv g g1.1 g2).1.mpr g4⟩
    · have hg := D.rng k (by omega) (by omega)
      have gb := hg.rg
      have g32 : pl mu p 2 k < 32 := by omega
      have cg := (cv _ hg.1 g32).1.mp k5
      have ug := R.rng _ hg.1
      rcases laG_e (f := trI (trT mu r) (zW mu r) x y) 32 with ⟨l1, l2⟩ | ⟨l1, l2⟩
      · exfalso
        refine l2 (u (pl mu p 2 k)) ug.1 (by omega) ?_
        unfold trI
        rw [if_pos ⟨(k4 _ hg.1).2.mpr ⟨g32, hg.2⟩, (cv _ hg.1 g32).2.mpr cg⟩]
      · obtain ⟨g, g1, g2, g3, g4⟩ := hit _ l1.1 (by omega) l2
        obtain ⟨z1, z2, z3, z4⟩ := und_root W K.rkk _ g (Nat.le_refl _) g1
        obtain ⟨y1, y2, y3, y4⟩ := und_root W K.rkk _ (pl mu p 2 k) (Nat.le_refl _) hg
        have ro := z4.root W z2
        have ro2 := y4.root W y2
        have ez : y1 = z1 := by rw [← ro.2, ← ro2.2]
        rw [ez] at y3
        have g1b := g1.rg
        have uni := cov_uni (pt := fun ax => if ax = 0 then x else y) W K.rkk (fun s hs hz => K.pln.be s hs hz) (fun s hs hz => (K.sh hs hz).1) (fun s hs hz => (K.sh hs hz).2) _ z1 (Nat.lt_succ_self _) z4 g (pl mu p 2 k) (fun w => by have := w.1; omega) (fun w => by have := w.1; omega) z3 y3 g4 cg
        rw [← g3, uni, if_neg (by omega), eT, k2, R.act _ hg.1 g32, gL4 (by omega)]
  · rw [show pnT (trT mu r) (zW mu r) x y = tpG (trT mu r) (zW mu r) x y 32 by unfold pnT; exact if_pos (by omega), if_neg (by omega)]
    obtain ⟨g, g1, g2⟩ := R.sur _ t1.1 (by omega) (show trT mu r 0 (tpG (trT mu r) (zW mu r) x y 32) ≠ 0 by omega)
    rw [← g2] at t2 t3 t4 ⊢
    have g48 := (k4 g g1).1.mp t2
    have gb := g1.1
    have sp := W.spl g
    have g32 : g < 32 := by omega
    have rg := W.mb.rng g (by omega) (by omega) (by omega)
    rw [g48] at rg
    have hm := mbrF_hit W.mb (h := 48) (t := g) ⟨by omega, by omega⟩ g48 (by omega)
    have cg := (cv g g1 g32).1.mpr ((cv g g1 g32).2.mp t3)
    have ps := R.pos g g1 (by omega)
    rcases F with ⟨f1, -⟩ | ⟨k, k1, k2, k3, k9⟩
    · exfalso
      have := (fl _ rg.1 rg.2).1
      refine f1 (lay mu (c + 2) 1 g) rg.1 (by omega) ?_
      rw [this, hm]; exact cg
    · obtain ⟨e1, e2, e3, e4, e5⟩ := fl k k1.1 (by omega)
      rw [e1] at k2
      have ug := R.rng _ e2
      have ps2 := R.pos _ e2 (by have := e2.1; omega)
      have le := t4 _ ug.1 (by omega) ⟨(k4 _ e2).1.mpr e4, (cv _ e2 e3).2.mpr ((cv _ e2 e3).1.mp k2)⟩
      rw [ps, ps2, e5] at le
      have eq : lay mu (c + 2) 1 g = k := by
        rcases Int.lt_or_le k (lay mu (c + 2) 1 g) with w | w
        · exfalso
          refine k3 _ w (by omega) ?_
          rw [(fl _ rg.1 rg.2).1, hm]; exact cg
        · omega
      rw [k9, e1, ← eq, hm, R.act g g1 g32, gL4 (by omega)]
end PB
