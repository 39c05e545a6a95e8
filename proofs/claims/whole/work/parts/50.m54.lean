/-! DRAG: the codes -/
section DR
variable {N : Int} {mu : Mem} {c h t p b q r : Nat}
def Lkk (mu mr : Mem) (c p r : Nat) (u : Int → Int) (rk : Int → Nat) (wn : Int → Int) : Prop :=
  (Rl u (lay mu (c + 2)) (trT mr r) (-1) 1) ∧
  (Fu (lay mu (c + 2))) ∧
  (Vl (lay mu (c + 2))) ∧
  (LeB (mu (c + 1))) ∧
  (LeL (mu (c + 1)) (lay mu (c + 2))) ∧
  (RK (lay mu (c + 2)) rk) ∧
  (PlE (lay mu (c + 2)) (mu (c + 1)) (mu c 0) (mu c 1) rk (pl mu p)) ∧
  (BxI u (lay mu (c + 2)) (mu (c + 1)) (mu c 0) (mu c 1) rk (qW mr r) wn (zW mr r) (qW mr r)) ∧
  (LyOk mr r (trT mr r) (zOf mr r) (mr (r + 1) 0) (mr (r + 1) 1)) ∧
  (R32Z (zW mr r))
theorem Lkk.rl {mu mr : Mem} {c p r : Nat} {u : Int → Int} {rk : Int → Nat} {wn : Int → Int} (h9 : Lkk mu mr c p r u rk wn) : Rl u (lay mu (c + 2)) (trT mr r) (-1) 1 := h9.1
theorem Lkk.fu {mu mr : Mem} {c p r : Nat} {u : Int → Int} {rk : Int → Nat} {wn : Int → Int} (h9 : Lkk mu mr c p r u rk wn) : Fu (lay mu (c + 2)) := h9.2.1
theorem Lkk.vl {mu mr : Mem} {c p r : Nat} {u : Int → Int} {rk : Int → Nat} {wn : Int → Int} (h9 : Lkk mu mr c p r u rk wn) : Vl (lay mu (c + 2)) := h9.2.2.1
theorem Lkk.leb {mu mr : Mem} {c p r : Nat} {u : Int → Int} {rk : Int → Nat} {wn : Int → Int} (h9 : Lkk mu mr c p r u rk wn) : LeB (mu (c + 1)) := h9.2.2.2.1
theorem Lkk.lel {mu mr : Mem} {c p r : Nat} {u : Int → Int} {rk : Int → Nat} {wn : Int → Int} (h9 : Lkk mu mr c p r u rk wn) : LeL (mu (c + 1)) (lay mu (c + 2)) := h9.2.2.2.2.1
theorem Lkk.rkk {mu mr : Mem} {c p r : Nat} {u : Int → Int} {rk : Int → Nat} {wn : Int → Int} (h9 : Lkk mu mr c p r u rk wn) : RK (lay mu (c + 2)) rk := h9.2.2.2.2.2.1
theorem Lkk.pln {mu mr : Mem} {c p r : Nat} {u : Int → Int} {rk : Int → Nat} {wn : Int → Int} (h9 : Lkk mu mr c p r u rk wn) : PlE (lay mu (c + 2)) (mu (c + 1)) (mu c 0) (mu c 1) rk (pl mu p) := h9.2.2.2.2.2.2.1
theorem Lkk.bxi {mu mr : Mem} {c p r : Nat} {u : Int → Int} {rk : Int → Nat} {wn : Int → Int} (h9 : Lkk mu mr c p r u rk wn) : BxI u (lay mu (c + 2)) (mu (c + 1)) (mu c 0) (mu c 1) rk (qW mr r) wn (zW mr r) (qW mr r) := h9.2.2.2.2.2.2.2.1
theorem Lkk.ok {mu mr : Mem} {c p r : Nat} {u : Int → Int} {rk : Int → Nat} {wn : Int → Int} (h9 : Lkk mu mr c p r u rk wn) : LyOk mr r (trT mr r) (zOf mr r) (mr (r + 1) 0) (mr (r + 1) 1) := h9.2.2.2.2.2.2.2.2.1
theorem Lkk.zr {mu mr : Mem} {c p r : Nat} {u : Int → Int} {rk : Int → Nat} {wn : Int → Int} (h9 : Lkk mu mr c p r u rk wn) : R32Z (zW mr r) := h9.2.2.2.2.2.2.2.2.2
theorem Lkk.mk {mu mr : Mem} {c p r : Nat} {u : Int → Int} {rk : Int → Nat} {wn : Int → Int} (h_rl : Rl u (lay mu (c + 2)) (trT mr r) (-1) 1) (h_fu : Fu (lay mu (c + 2))) (h_vl : Vl (lay mu (c + 2))) (h_leb : LeB (mu (c + 1))) (h_lel : LeL (mu (c + 1)) (lay mu (c + 2))) (h_rkk : RK (lay mu (c + 2)) rk) (h_pln : PlE (lay mu (c + 2)) (mu (c + 1)) (mu c 0) (mu c 1) rk (pl mu p)) (h_bxi : BxI u (lay mu (c + 2)) (mu (c + 1)) (mu c 0) (mu c 1) rk (qW mr r) wn (zW mr r) (qW mr r)) (h_ok : LyOk mr r (trT mr r) (zOf mr r) (mr (r + 1) 0) (mr (r + 1) 1)) (h_zr : R32Z (zW mr r)) : Lkk mu mr c p r u rk wn := ⟨h_rl, h_fu, h_vl, h_leb, h_lel, h_rkk, h_pln, h_bxi, h_ok, h_zr⟩
theorem Inv.lk (A : Inv N mu c h t p b r) (hN : 0 ≤ N ∧ N ≤ 10000000) {mr : Mem} (R0 : R32 mr) (off : ∀ (x : Nat) (i : Int), r ≤ x → mr x i = mu x i) : ∃ (u : Int → Int) (rk : Int → Nat) (wn : Int → Int), Lkk mu mr c p r u rk wn := by
  have mw := A.mw hN
  obtain ⟨e, P, Lr⟩ := A.base
  obtain ⟨A1, -⟩ := A
  have wd := A1.st.wid
  have hi := A1.st.hig
  obtain ⟨rk, k1, k2⟩ := A1.pln
  have eT := trT_off off
  rw [← eT] at Lr
  have tb9 : TB 10000000 (trT mr r) := by rw [eT]; exact mw.2.1
  obtain ⟨u, R⟩ := Lr.rl
  have hfr : ∀ p ax : Int, 0 ≤ p → p < 16 → (ax = 0 ∨ ax = 1) → leR mr r ax p = mu (c + 1) (2 * p + ax) := fun p ax h1 h2 ha => by
    have := (A1.st.lst (2 * p + ax) (by omega) (by omega)).1
    unfold leR
    rw [off _ _ (by omega), this]
    congr 1
    omega
  have e2 : mr (r + 1) 2 = mu c 2 := by rw [off _ _ (by omega), e]
  obtain ⟨⟨wn, B⟩, o1, o2, o3⟩ := laZ_e (mu := mr) (rr := r) (Z := zOf mr r) R Lr.fu A1.st.leB A1.st.leL Lr.vl (zOf_R R0 r) k1.1 k1.2 (w := mu c 0) (h := mu c 1) (by omega) (by omega) (by rw [e2]; exact P) (by rw [e2]; exact Lr.cl) hfr R0
  have w0 : mr (r + 1) 0 = mu c 0 := by rw [off _ _ (by omega)]; exact wd.1.symm
  have w1 : mr (r + 1) 1 = mu c 1 := by rw [off _ _ (by omega)]; exact hi.1.symm
  have ez : laZ mr r (trT mr r) (zOf mr r) (mu c 0) (mu c 1) = zW mr r := by show _ = laZ mr r (trT mr r) (zOf mr r) (mr (r + 1) 0) (mr (r + 1) 1); rw [w0, w1]
  have hZ : R32Z (zW mr r) := laZ_R R0 (zOf_R R0 r) tb9 (by omega) (R0 _ _) (R0 _ _) (by rw [w0, w1]; exact o1)
  rw [ez] at B
  exact ⟨u, rk, wn, Lkk.mk R Lr.fu Lr.vl A1.st.leB A1.st.leL k1 k2 B ⟨R.so Lr.fu, by omega, by rw [w0, w1]; exact o1⟩ hZ⟩
/-- the sizes of what stands in a split -/
theorem Lkk.sz {mr : Mem} {u : Int → Int} {rk : Int → Nat} {wn : Int → Int} (K : Lkk mu mr c p r u rk wn) {s x : Int} (hs : InT (lay mu (c + 2)) s) (z : isZ s) (hx : InT (lay mu (c + 2)) x) :
    exF (trT mr r) (zW mr r) (u s) (u x) = pl mu p 6 (2 * x + lay mu (c + 2) 5 (s - 32)) ∧ ltF (trT mr r) (zW mr r) (u s) (u x) = pl mu p 4 (2 * x + lay mu (c + 2) 5 (s - 32)) ∧ (0 ≤ pl mu p 6 (2 * x + lay mu (c + 2) 5 (s - 32)) ∧ pl mu p 6 (2 * x + lay mu (c + 2) 5 (s - 32)) ≤ 400) ∧
      (1 ≤ pl mu p 4 (2 * x + lay mu (c + 2) 5 (s - 32)) ∧ pl mu p 4 (2 * x + lay mu (c + 2) 5 (s - 32)) ≤ 1000) ∧ (pl mu p 8 s = zW mr r 13 (u s) ∧ (pl mu p 8 s = 0 ∨ pl mu p 8 s = 1)) := by
  have W := K.rl.wf
  have z1 := z.1
  have z2 := z.2
  have axs := W.axs s z1 z2
  have kn := K.rl.knd s hs.1
  unfold kindL at kn
  rw [if_neg (show ¬ s < 32 by omega)] at kn
  have bx := same (f := mu (c + 1)) (w := mu c 0) (h := mu c 1) W K.fu K.leb K.lel K.vl K.rkk.1 K.rkk.2 K.pln K.bxi hx
  have bs := same (f := mu (c + 1)) (w := mu c 0) (h := mu c 1) W K.fu K.leb K.lel K.vl K.rkk.1 K.rkk.2 K.pln K.bxi hs
  have bb := (K.pln.bx x hx).1 _ axs
  have lo := WE.low W K.fu K.leb K.lel K.pln.p0.we K.rkk.1 K.rkk.2 _ x (Nat.le_refl _) hx _ axs
  have ug := K.rl.rng x hx.1
  have r7 := K.zr 7 (u x) (by omega)
  have r8 := K.zr 8 (u x) (by omega)
  have b8 := bs.2.2.2 z
  have tb : tgC (pl mu p) (lay mu (c + 2)) s = 0 ∨ tgC (pl mu p) (lay mu (c + 2)) s = 1 := by unfold tgC; split <;> simp
  have hb9 := WE.bnd W K.fu K.leb K.pln.p0.we K.rkk.1 K.rkk.2 _ x (Nat.le_refl _) hx _ axs
  have lv9 := lvN_b (lay mu (c + 2)) x
  unfold VC at lo hb9
  refine ⟨?_, ?_, bb.2, ⟨lo, ?_⟩, b8.1, ?_⟩
  · unfold exF
    rw [kn]
    rcases axs with e | e
    · rw [e, if_pos (by omega), bx.2.2.1.1]
    · rw [e, if_neg (by omega), bx.2.2.1.2]
  · unfold ltF
    rw [kn]
    rcases axs with e | e
    · rw [e, if_pos (by omega), bx.1.1]
    · rw [e, if_neg (by omega), bx.1.2]
  · omega
  · rw [b8.1, ← b8.2]; exact tb
theorem O_drag_f (A : Inv N mu c h t p b r) (hN : 0 ≤ N ∧ N ≤ 10000000) {mr : Mem} (R0 : R32 mr) (off : ∀ (x : Nat) (i : Int), r ≤ x → mr x i = mu x i) {x d v : Int} (hv : myG mr r x → v = myV (trT mr r) (zW mr r) x d) (hv0 : ¬ myG mr r x → v = 0) :
    drgF mr r x d v = fdrF mu c p x d ∧ (0 ≤ x → x < mu c 2 → LyOk mr r (trT mr r) (zOf mr r) (mr (r + 1) 0) (mr (r + 1) 1) ∧ (myG mr r x → myB (trT mr r) (zW mr r) x) ∧ R32Z (zW mr r)) := by
  obtain ⟨e, P, Lr⟩ := A.base
  obtain ⟨u, rk, wn, K⟩ := A.lk hN R0 off
  have e2 : mr (r + 1) 2 = mu c 2 := by rw [off _ _ (by omega), e]
  have R := K.rl
  have W := R.wf
  by_cases hx : 0 ≤ x ∧ x < mu c 2
  · have pr := W.pan x (by omega) (by omega)
    have pa := R.pan x (by omega) (by omega)
    have st := A.sx (x := x) (by omega)
    rw [← trT_off off] at st
    have gx := gL0 (L := lay mu (c + 2)) (i := x) (by omega)
    by_cases hz : spF (gL (lay mu (c + 2)) 0 (gL (lay mu (c + 2)) 0 x)) = 0
    · -- no split above
      have ng : ¬ myG mr r x := by
        rintro ⟨m1, m2⟩
        rw [st] at m1
        have s1 := stt0 (L := lay mu (c + 2)) (x := x) (by omega) (by omega)
        have us := R.pus (p := x) (by omega) s1
        have pg := R.par _ us
        rw [gx, gL0 (by omega)] at hz
        rw [pa, if_neg s1, pg] at m2
        by_cases y : 32 ≤ lay mu (c + 2) 0 (lay mu (c + 2) 0 x) ∧ lay mu (c + 2) 0 (lay mu (c + 2) 0 x) < 47
        · rw [show spF (lay mu (c + 2) 0 (lay mu (c + 2) 0 x)) = 1 from if_pos y] at hz; omega
        · rw [if_neg y] at m2; exact m2 rfl
      have v0 := hv0 ng
      refine ⟨?_, fun _ _ => ⟨K.ok, fun m => absurd m ng, K.zr⟩⟩
      unfold drgF fdrF
      rw [e2, v0, if_pos (show pnF mu c x = 1 from pn1.mpr hx)]
      by_cases hd : -400 ≤ d ∧ d ≤ 400
      · rw [if_neg (by omega), if_neg (by omega), if_neg (by omega), if_neg (by omega), if_pos (Or.inl hz)]
      · rw [if_neg (by omega), if_pos hd, if_pos (by omega)]
    · obtain ⟨i1, i2, i3, i4⟩ := inSplit W (x := x) (by omega) hz
      have s1 : lay mu (c + 2) 0 x ≠ -1 := by omega
      have us := R.pus (p := x) (by omega) s1
      have hg : InT (lay mu (c + 2)) (lay mu (c + 2) 0 x) := ⟨us, by omega⟩
      have hs := hg.par W i4
      have pg := R.par _ us
      rw [if_pos i4] at pg
      have ps := R.pos _ us (by omega)
      have us2 := R.rng _ hs.1
      have ug := R.rng _ us
      rw [if_neg s1] at pa
      have rg := W.mb.rng (lay mu (c + 2) 0 x) (by omega) (by omega) (by omega)
      have c16 := W.cnt16 K.fu (h := lay mu (c + 2) 0 (lay mu (c + 2) 0 x)) ⟨by omega, by omega⟩
      have g1 := gL1 (L := lay mu (c + 2)) (i := lay mu (c + 2) 0 x) (by omega)
      have g5 := gL5 (L := lay mu (c + 2)) (i := lay mu (c + 2) 0 (lay mu (c + 2) 0 x) - 32) (by omega)
      have s0 : sttF (lay mu (c + 2)) x = 1 := by
        unfold sttF
        rw [aL_0 (i := x) (by omega), if_neg s1, aL_0 (by omega), if_neg (by omega)]
      have go : myG mr r x := ⟨by rw [st, s0], by rw [pa, pg]; omega⟩
      have vv := hv go
      have sg := K.sz hs i4 hg
      have en : myN (trT mr r) x = if lay mu (c + 2) 1 (lay mu (c + 2) 0 x) + 1 < lay mu (c + 2) 2 (lay mu (c + 2) 0 (lay mu (c + 2) 0 x)) then u (mbrF (lay mu (c + 2)) (lay mu (c + 2) 0 (lay mu (c + 2) 0 x)) (lay mu (c + 2) 1 (lay mu (c + 2) 0 x) + 1)) else -1 := by
        unfold myN
        rw [pa, pg, ps]
        by_cases y : lay mu (c + 2) 1 (lay mu (c + 2) 0 x) + 1 < lay mu (c + 2) 2 (lay mu (c + 2) 0 (lay mu (c + 2) 0 x))
        · rw [if_pos y, R.kid hs.1 i4.1 ⟨by omega, y⟩]
        · rw [if_neg y, R.kidNo hs.1 i4.1 (Or.inr (by omega))]
      have nxt : lay mu (c + 2) 1 (lay mu (c + 2) 0 x) + 1 < lay mu (c + 2) 2 (lay mu (c + 2) 0 (lay mu (c + 2) 0 x)) → InT (lay mu (c + 2)) (mbrF (lay mu (c + 2)) (lay mu (c + 2) 0 (lay mu (c + 2) 0 x)) (lay mu (c + 2) 1 (lay mu (c + 2) 0 x) + 1)) := fun y => by
        obtain ⟨m1, m2, m3⟩ := mbrF_get W.mb (h := lay mu (c + 2) 0 (lay mu (c + 2) 0 x)) (i := lay mu (c + 2) 1 (lay mu (c + 2) 0 x) + 1) (by omega) ⟨by omega, y⟩
        exact InT.kid W i4 m1 m2
      refine ⟨?_, fun _ _ => ⟨K.ok, fun _ => ?_, K.zr⟩⟩
      · unfold drgF fdrF
        rw [e2, vv, if_pos (show pnF mu c x = 1 from pn1.mpr hx)]
        by_cases hd : -400 ≤ d ∧ d ≤ 400
        · rw [if_neg (show ¬ ¬ (0 ≤ x ∧ x ≤ mu c 2 - 1) by omega), if_neg (show ¬ ¬ (-400 ≤ d ∧ d ≤ 400) by omega), if_neg (show ¬ (d < -400 ∨ 400 < d) by omega)]
          rw [i1, i3, g1, g5]
          unfold myV
          rw [pa, pg, en, ← sg.2.2.2.2.1]
          have t8 : tiF (pl mu p) (lay mu (c + 2) 0 (lay mu (c + 2) 0 x)) = pl mu p 8 (lay mu (c + 2) 0 (lay mu (c + 2) 0 x)) := by
            unfold tiF
            rw [gKr (by omega) (by omega)]
            rcases sg.2.2.2.2.2 with y | y <;> rw [y] <;> rfl
          rw [t8, show spF (lay mu (c + 2) 0 (lay mu (c + 2) 0 x)) = 1 from if_pos i4]
          by_cases y : lay mu (c + 2) 1 (lay mu (c + 2) 0 x) + 1 < lay mu (c + 2) 2 (lay mu (c + 2) 0 (lay mu (c + 2) 0 x))
          · have hn := nxt y
            have un := R.rng _ hn.1
            have nb := hn.rg
            have sn := K.sz hs i4 hn
            have ax := W.axs _ i4.1 i4.2
            rw [if_pos y, sg.1, sg.2.1, sn.1, sn.2.1]
            unfold spaF
            rw [gKr (by omega) (by omega), gKr (by omega) (by omega), gKr (by omega) (by omega), gKr (by omega) (by omega)]
            have r1 := sg.2.2.1
            have r2 := sg.2.2.2.1
            have r3 := sn.2.2.1
            have r4 := sn.2.2.2.1
            by_cases w8 : pl mu p 8 (lay mu (c + 2) 0 (lay mu (c + 2) 0 x)) = 1
            · rw [if_pos (Or.inr w8), if_pos (Or.inr w8)]; rfl
            · rw [if_neg (show ¬ (u (mbrF (lay mu (c + 2)) (lay mu (c + 2) 0 (lay mu (c + 2) 0 x)) (lay mu (c + 2) 1 (lay mu (c + 2) 0 x) + 1)) = -1 ∨ pl mu p 8 (lay mu (c + 2) 0 (lay mu (c + 2) 0 x)) = 1) by omega), if_neg (show ¬ ((1 : Int) = 0 ∨ pl mu p 8 (lay mu (c + 2) 0 (lay mu (c + 2) 0 x)) = 1) by omega), if_neg (show ¬ mbrF (lay mu (c + 2)) (lay mu (c + 2) 0 (lay mu (c + 2) 0 x)) (lay mu (c + 2) 1 (lay mu (c + 2) 0 x) + 1) = -1 by omega), wr_id (by omega), wr_id (by omega)]
              (repeat' split) <;> omega
          · rw [if_neg y, mbrF_out W.mb (by omega) (Or.inr (by omega)), if_pos (Or.inl rfl)]
            (repeat' split) <;> omega
        · rw [if_neg (show ¬ ¬ (0 ≤ x ∧ x ≤ mu c 2 - 1) by omega), if_pos hd, if_pos (show d < -400 ∨ 400 < d by omega)]
      · unfold myB
        rw [pa, pg, en, sg.1]
        have r1 := sg.2.2.1
        refine ⟨by omega, fun y => ?_⟩
        by_cases z : lay mu (c + 2) 1 (lay mu (c + 2) 0 x) + 1 < lay mu (c + 2) 2 (lay mu (c + 2) 0 (lay mu (c + 2) 0 x))
        · rw [if_pos z]
          have sn := K.sz hs i4 (nxt z)
          rw [sn.1]
          have r3 := sn.2.2.1
          omega
        · rw [if_neg z] at y; exact absurd rfl y
  · refine ⟨?_, fun a1 a2 => absurd ⟨a1, a2⟩ hx⟩
    unfold drgF fdrF
    rw [e2, if_neg (show ¬ pnF mu c x = 1 from fun w => hx (pn1.mp w)), if_pos (by omega)]
end DR
