/-! THE QUESTIONS: split -/
section Q3
variable {N : Int} {mu : Mem} {c h t p b q r : Nat}
theorem upT_neg (T : Mem) : ∀ d : Nat, upT T d (-1) = -1
  | 0 => rfl
  | d + 1 => by unfold upT; rw [if_pos rfl]
theorem spF1 {s : Int} : spF s = 1 ↔ isZ s := by unfold spF isZ; split <;> simp [*]
theorem up_e9 {u : Int → Int} {L T : Mem} (R : Rl u L T (-1) 1) : ∀ (d : Nat) (y : Int), InT L y →
    (isZ (upG L d y (L 0 y)).2 ∧ InT L (upG L d y (L 0 y)).1 ∧ (upG L d y (L 0 y)).2 = L 0 (upG L d y (L 0 y)).1 ∧ upT T d (u y) = u (upG L d y (L 0 y)).1) ∨
    (¬ isZ (upG L d y (L 0 y)).2 ∧ (upT T d (u y) = -1 ∨ (upT T d (u y) ≠ -1 ∧ T 1 (upT T d (u y)) = -1)))
  | 0, y, hy => by
    have ug := R.rng y hy.1
    have pa := R.par y hy.1
    show (isZ (L 0 y) ∧ InT L y ∧ L 0 y = L 0 y ∧ u y = u y) ∨ (¬ isZ (L 0 y) ∧ (u y = -1 ∨ (u y ≠ -1 ∧ T 1 (u y) = -1)))
    by_cases z : isZ (L 0 y)
    · exact Or.inl ⟨z, hy, rfl, rfl⟩
    · rw [if_neg (show ¬ (32 ≤ L 0 y ∧ L 0 y < 47) from z)] at pa
      exact Or.inr ⟨z, Or.inr ⟨by omega, pa⟩⟩
  | d + 1, y, hy => by
    have ug := R.rng y hy.1
    have pa := R.par y hy.1
    have b := hy.rg
    unfold upG upT
    rw [if_neg (show ¬ u y = -1 by omega)]
    by_cases z : isZ (L 0 y)
    · have hs := hy.par R.wf z
      rw [if_pos (spF1.mpr z), gL0 (by have := hs.rg; omega)]
      rw [if_pos (show 32 ≤ L 0 y ∧ L 0 y < 47 from z)] at pa
      rw [pa]
      exact up_e9 R d (L 0 y) hs
    · rw [if_neg (fun e => z (spF1.mp e))]
      rw [if_neg (show ¬ (32 ≤ L 0 y ∧ L 0 y < 47) from z)] at pa
      rw [pa, upT_neg]
      exact Or.inr ⟨z, Or.inl rfl⟩
theorem O_split_f (A : Inv N mu c h t p b r) (x v w : Int) : spF9 (mu (r + 1) 2) x v w = fspF mu c x v w := by
  obtain ⟨e, P, -⟩ := A.base
  unfold spF9 fspF pnF fsF
  rw [e]
  (repeat' split) <;> omega
theorem st_w {T Z : Mem} {p v : Int} (h : saF T p v 0 ≠ -1) : stF T Z p v 0 = (if T 0 (saF T p v 0) = 3 then 1 else 0) ∧ stF T Z p v 1 = kdT T (saF T p v 0) ∧ stF T Z p v 2 = T 2 (saF T p v 1) ∧ stF T Z p v 3 = Z 7 (saF T p v 0) ∧ stF T Z p v 4 = Z 8 (saF T p v 0) ∧
    stF T Z p v 5 = Z 11 (saF T p v 0) ∧ stF T Z p v 6 = Z 12 (saF T p v 0) ∧ stF T Z p v 7 = Z 13 (saF T p v 0) := by
  simp [stF, h]
theorem O_split (A : Inv N mu c h t p b r) {x v w : Int} (hf : fspF mu c x v w = 0) :
    spvF (lay mu (c + 2)) (pl mu p) x v w = stF (trT mu r) (zW mu r) x v w ∧ LyOk mu r (trT mu r) (zOf mu r) (mu (r + 1) 0) (mu (r + 1) 1) := by
  obtain ⟨e, P, Lr⟩ := A.base
  obtain ⟨u, rk, wn, K⟩ := A.look
  have hx : (0 ≤ x ∧ x < mu c 2) ∧ 0 ≤ v ∧ 0 ≤ w ∧ w ≤ 7 := by
    unfold fspF fsF at hf
    split at hf
    · rename_i k
      have := pn1.mp k
      split at hf <;> omega
    · omega
  obtain ⟨hx, hv, hw⟩ := hx
  refine ⟨?_, K.ok⟩
  have R := K.rl
  have W := R.wf
  have pr := W.pan x (by omega) (by omega)
  have pa := R.pan x (by omega) (by omega)
  have st := A.sx (x := x) (by omega)
  have gx := gL0 (L := lay mu (c + 2)) (i := x) (by omega)
  have none : ¬ isZ (upG (lay mu (c + 2)) v.toNat (lay mu (c + 2) 0 x) (gL (lay mu (c + 2)) 0 (lay mu (c + 2) 0 x))).2 → saF (trT mu r) x v 0 = -1 → spvF (lay mu (c + 2)) (pl mu p) x v w = stF (trT mu r) (zW mu r) x v w := fun h1 h2 => by
    unfold spvF stF
    rw [gx, if_neg (fun e => h1 (spF1.mp e)), if_pos h2]
  have low : ∀ (s : Int) (d : Nat) (y : Int), ¬ isZ s → ¬ isZ (upG (lay mu (c + 2)) d y s).2 := fun s d y hs => by
    cases d with
    | zero => exact hs
    | succ d => unfold upG; rw [if_neg (fun e => hs (spF1.mp e))]; exact hs
  by_cases z : lay mu (c + 2) 0 x = -1
  · have s0 : sttF (lay mu (c + 2)) x = 0 := by unfold sttF; rw [aL_0 (by omega), if_pos z]
    refine none (low _ _ _ ?_) ?_
    · have g1 : gL (lay mu (c + 2)) 0 (lay mu (c + 2) 0 x) = -1 := by rw [z]; unfold gL gK; rw [wr_id (by omega)]; exact if_neg (by omega)
      rw [g1]; unfold isZ; omega
    · unfold saF; rw [st, s0, if_neg (by omega)]
  · rw [if_neg z] at pa
    have us := R.pus (p := x) (by omega) z
    have ug := R.rng _ us
    have gg := gL0 (L := lay mu (c + 2)) (i := lay mu (c + 2) 0 x) (by omega)
    have s0 : sttF (lay mu (c + 2)) x = if lay mu (c + 2) 0 (lay mu (c + 2) 0 x) = 48 then 2 else 1 := by
      unfold sttF; rw [aL_0 (i := x) (by omega), if_neg z, aL_0 (by omega)]
    by_cases f : lay mu (c + 2) 0 (lay mu (c + 2) 0 x) = 48
    · rw [if_pos f] at s0
      refine none (low _ _ _ ?_) ?_
      · rw [gg, f]; unfold isZ; omega
      · unfold saF; rw [st, s0, if_neg (by omega)]
    · rw [if_neg f] at s0
      have hx9 : InT (lay mu (c + 2)) (lay mu (c + 2) 0 x) := ⟨us, f⟩
      have ue := up_e9 R v.toNat _ hx9
      have sa : ∀ k : Int, saF (trT mu r) x v k = if k = 1 ∨ upT (trT mu r) v.toNat (u (lay mu (c + 2) 0 x)) = -1 then upT (trT mu r) v.toNat (u (lay mu (c + 2) 0 x)) else trT mu r 1 (upT (trT mu r) v.toNat (u (lay mu (c + 2) 0 x))) := fun k => by
        unfold saF; rw [st, s0, if_pos rfl, pa]
      rcases ue with ⟨e1, e2, e3, e4⟩ | ⟨e1, e2⟩
      · have hu : spvF (lay mu (c + 2)) (pl mu p) x v w = vsF (lay mu (c + 2)) (pl mu p) (upG (lay mu (c + 2)) v.toNat (lay mu (c + 2) 0 x) (lay mu (c + 2) 0 (lay mu (c + 2) 0 x))).2 (upG (lay mu (c + 2)) v.toNat (lay mu (c + 2) 0 x) (lay mu (c + 2) 0 (lay mu (c + 2) 0 x))).1 w := by
          unfold spvF; rw [gx, gg, if_pos (spF1.mpr e1)]
        rw [hu]
        generalize (upG (lay mu (c + 2)) v.toNat (lay mu (c + 2) 0 x) (lay mu (c + 2) 0 (lay mu (c + 2) 0 x))).2 = s at *
        generalize (upG (lay mu (c + 2)) v.toNat (lay mu (c + 2) 0 x) (lay mu (c + 2) 0 (lay mu (c + 2) 0 x))).1 = y at *
        subst e3
        have hs := e2.par W e1
        have uy := R.rng y e2.1
        have uS := R.rng _ hs.1
        have py := R.par y e2.1
        have by' := e2.rg
        have bs := e1.1
        have bs2 := e1.2
        rw [if_pos (show 32 ≤ lay mu (c + 2) 0 y ∧ lay mu (c + 2) 0 y < 47 from e1)] at py
        have s1 : saF (trT mu r) x v 1 = u y := by rw [sa, if_pos (Or.inl rfl), e4]
        have s00 : saF (trT mu r) x v 0 = u (lay mu (c + 2) 0 y) := by rw [sa, e4, if_neg (by omega), py]
        have sn : saF (trT mu r) x v 0 ≠ -1 := by rw [s00]; omega
        obtain ⟨w0, w1, w2, w3, w4, w5, w6, w7⟩ := st_w (Z := zW mu r) sn
        rw [s00] at w0 w1 w3 w4 w5 w6 w7
        rw [s1] at w2
        have bx := K.box hs
        have kn := R.knd _ hs.1
        have ax := W.axs _ bs bs2
        have ps := R.pos y e2.1 (by omega)
        have kd := R.kids hs.1 bs
        have tb : tgC (pl mu p) (lay mu (c + 2)) (lay mu (c + 2) 0 y) = 0 ∨ tgC (pl mu p) (lay mu (c + 2)) (lay mu (c + 2) 0 y) = 1 := by unfold tgC; split <;> simp
        have b8 := bx.2.2.2 e1
        have cas : w = 0 ∨ w = 1 ∨ w = 2 ∨ w = 3 ∨ w = 4 ∨ w = 5 ∨ w = 6 ∨ w = 7 := by omega
        rcases cas with rfl | rfl | rfl | rfl | rfl | rfl | rfl | rfl
        · rw [vs_0, w0, kn, gL5 (by omega)]
          unfold kindL
          rw [if_neg (show ¬ lay mu (c + 2) 0 y < 32 by omega)]
          (repeat' split) <;> omega
        · rw [vs_1, w1, kd, gL2 (by omega)]
        · rw [vs_2, w2, ps, gL1 (by omega)]
        · rw [vs_3, w3, gKr (by omega) (by omega), bx.1.1]
        · rw [vs_4, w4, gKr (by omega) (by omega), bx.1.2]
        · rw [vs_5, w5, gKr (by omega) (by omega), bx.2.2.1.1]
        · rw [vs_6, w6, gKr (by omega) (by omega), bx.2.2.1.2]
        · rw [vs_7, w7]
          unfold tiF
          rw [gKr (by omega) (by omega), b8.1]
          have := b8.2
          (repeat' split) <;> omega
      · refine none (by rw [gg]; exact e1) ?_
        rw [sa]
        rcases e2 with e2 | ⟨e2, e3⟩
        · rw [if_pos (Or.inr e2)]; exact e2
        · rw [if_neg (by omega)]; exact e3
end Q3
