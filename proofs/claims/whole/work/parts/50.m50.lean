/-! THE QUESTIONS: tab and pane -/
theorem pv_3 (mu : Mem) (r : Nat) (T Z : Mem) (x : Int) (h : T 9 x ≠ -1) : pvF mu r T Z x 3 = Z 9 (T 9 x) := by simp [pvF, h]
theorem pa_3 (mu : Mem) (c p : Nat) (x : Int) (h : sttF (lay mu (c + 2)) x ≠ 0) : paF mu c p x 3 = vgF (lay mu (c + 2)) (pl mu p) x (gL (lay mu (c + 2)) 0 x) 3 := by simp [paF, h]
theorem pv_4 (mu : Mem) (r : Nat) (T Z : Mem) (x : Int) (h : T 9 x ≠ -1) : pvF mu r T Z x 4 = Z 10 (T 9 x) + 1 := by simp [pvF, h]
theorem pa_4 (mu : Mem) (c p : Nat) (x : Int) (h : sttF (lay mu (c + 2)) x ≠ 0) : paF mu c p x 4 = vgF (lay mu (c + 2)) (pl mu p) x (gL (lay mu (c + 2)) 0 x) 4 := by simp [paF, h]
theorem pv_5 (mu : Mem) (r : Nat) (T Z : Mem) (x : Int) (h : T 9 x ≠ -1) : pvF mu r T Z x 5 = Z 11 (T 9 x) := by simp [pvF, h]
theorem pa_5 (mu : Mem) (c p : Nat) (x : Int) (h : sttF (lay mu (c + 2)) x ≠ 0) : paF mu c p x 5 = vgF (lay mu (c + 2)) (pl mu p) x (gL (lay mu (c + 2)) 0 x) 5 := by simp [paF, h]
theorem pv_6 (mu : Mem) (r : Nat) (T Z : Mem) (x : Int) (h : T 9 x ≠ -1) : pvF mu r T Z x 6 = phF Z (T 9 x) := by simp [pvF, h]
theorem pa_6 (mu : Mem) (c p : Nat) (x : Int) (h : sttF (lay mu (c + 2)) x ≠ 0) : paF mu c p x 6 = vgF (lay mu (c + 2)) (pl mu p) x (gL (lay mu (c + 2)) 0 x) 6 := by simp [paF, h]
theorem pv_7 (mu : Mem) (r : Nat) (T Z : Mem) (x : Int) (h : T 9 x ≠ -1) : pvF mu r T Z x 7 = (if T 4 (T 9 x) = x then 1 else 0) := by simp [pvF, h]
theorem pa_7 (mu : Mem) (c p : Nat) (x : Int) (h : sttF (lay mu (c + 2)) x ≠ 0) : paF mu c p x 7 = vgF (lay mu (c + 2)) (pl mu p) x (gL (lay mu (c + 2)) 0 x) 7 := by simp [paF, h]
theorem pv_8 (mu : Mem) (r : Nat) (T Z : Mem) (x : Int) (h : T 9 x ≠ -1) : pvF mu r T Z x 8 = T 10 x := by simp [pvF, h]
theorem pa_8 (mu : Mem) (c p : Nat) (x : Int) (h : sttF (lay mu (c + 2)) x ≠ 0) : paF mu c p x 8 = vgF (lay mu (c + 2)) (pl mu p) x (gL (lay mu (c + 2)) 0 x) 8 := by simp [paF, h]
theorem pv_9 (mu : Mem) (r : Nat) (T Z : Mem) (x : Int) (h : T 9 x ≠ -1) : pvF mu r T Z x 9 = tbT T (mu (r + 1) 2) (T 9 x) := by simp [pvF, h]
theorem pa_9 (mu : Mem) (c p : Nat) (x : Int) (h : sttF (lay mu (c + 2)) x ≠ 0) : paF mu c p x 9 = vgF (lay mu (c + 2)) (pl mu p) x (gL (lay mu (c + 2)) 0 x) 9 := by simp [paF, h]
theorem pv_10 (mu : Mem) (r : Nat) (T Z : Mem) (x : Int) (h : T 9 x ≠ -1) : pvF mu r T Z x 10 = (if T 1 (T 9 x) = -1 then -1 else T 3 (T 9 x)) := by simp [pvF, h]
theorem pa_10 (mu : Mem) (c p : Nat) (x : Int) (h : sttF (lay mu (c + 2)) x ≠ 0) : paF mu c p x 10 = vgF (lay mu (c + 2)) (pl mu p) x (gL (lay mu (c + 2)) 0 x) 10 := by simp [paF, h]
theorem pv_11 (mu : Mem) (r : Nat) (T Z : Mem) (x : Int) (h : T 9 x ≠ -1) : pvF mu r T Z x 11 = abG T 40 (T 1 (T 9 x)) := by simp [pvF, h]
theorem pa_11 (mu : Mem) (c p : Nat) (x : Int) (h : sttF (lay mu (c + 2)) x ≠ 0) : paF mu c p x 11 = vgF (lay mu (c + 2)) (pl mu p) x (gL (lay mu (c + 2)) 0 x) 11 := by simp [paF, h]
theorem vgq_8 (L P : Mem) (x g : Int) : vgF L P x g 8 = gL L 1 x := by simp [vgF]
theorem vgq_9 (L P : Mem) (x g : Int) : vgF L P x g 9 = gL L 2 g := by simp [vgF]
theorem vgq_10 (L P : Mem) (x g : Int) : vgF L P x g 10 = (if spF (gL L 0 g) = 1 then gL L 3 g else -1) := by simp [vgF]
theorem vgq_11 (L P : Mem) (x g : Int) : vgF L P x g 11 = gK P 7 49 g := by simp [vgF]
theorem pv_0 (mu : Mem) (r : Nat) (T Z : Mem) (x : Int) : pvF mu r T Z x 0 = mu (r + 1) (3 + 2 * x + 0) := by simp [pvF]
theorem pa_0 (mu : Mem) (c p : Nat) (x : Int) : paF mu c p x 0 = gK mu (c + 1) 32 (2 * x + 0) := by simp [paF]
theorem pv_1 (mu : Mem) (r : Nat) (T Z : Mem) (x : Int) : pvF mu r T Z x 1 = mu (r + 1) (3 + 2 * x + 1) := by simp [pvF]
theorem pa_1 (mu : Mem) (c p : Nat) (x : Int) : paF mu c p x 1 = gK mu (c + 1) 32 (2 * x + 1) := by simp [paF]
theorem pv_2 (mu : Mem) (r : Nat) (T Z : Mem) (x : Int) : pvF mu r T Z x 2 = sxT T x := by simp [pvF]
theorem pa_2 (mu : Mem) (c p : Nat) (x : Int) : paF mu c p x 2 = sttF (lay mu (c + 2)) x := by simp [paF]
section Q1
variable {N : Int} {mu : Mem} {c h t p b q r : Nat}
/-- laying out changes nothing that counts -/
theorem Inv.lay (O : Od c h t p b q r) (A : Inv N mu c h t p b r) (hN : 0 ≤ N ∧ N ≤ 10000000) (ok : LyOk mu r (trT mu r) (zOf mu r) (mu (r + 1) 0) (mu (r + 1) 1)) {k : Int} (hk : 0 ≤ k ∧ k ≤ 3) :
    Inv N (up (lyW mu r) r 7 k) c h t p b r ∧ up (lyW mu r) r 7 k r 7 = k ∧ R32Z (zW mu r) := by
  have mw := A.mw hN
  have hZ : R32Z (zW mu r) := laZ_R A.2 (zOf_R A.2 r) mw.2.1 (by omega) (A.2 _ _) (A.2 _ _) ok.2.2
  have hq := ok.2.1
  have R1 : R32 (lyW mu r) := lyM_R A.2 hZ mw.2.1 (by omega) (q := qW mu r) (by show -2147483648 ≤ (quT (trT mu r) (zOf mu r)).1 ∧ (quT (trT mu r) (zOf mu r)).1 ≤ 2147483647; omega)
  have e : ∀ (x : Nat) (i : Int), (x < r ∨ (r < x ∧ x < r + 6) ∨ (x = r ∧ i ≠ 9)) → lyW mu r x i = mu x i := fun x i hx => by
    show ptT (zM mu r (qW mu r) (zW mu r)) r (trT mu r) x i = _
    have z : ∀ (y : Nat) (j : Int), (y < r ∨ (r < y ∧ y < r + 6) ∨ (y = r ∧ j ≠ 9)) → zM mu r (qW mu r) (zW mu r) y j = mu y j := fun y j hy => by
      unfold zM; rw [if_neg (by omega), if_neg (by omega)]
    by_cases y : x = r + 1
    · subst y
      rw [ptT_1, show zM mu r (qW mu r) (zW mu r) (r + 1) = mu (r + 1) from funext fun j => z _ _ (by omega), trS_T, ptS_self]
    · rw [ptT_x _ _ _ y, z x i hx]
  have R2 : R32 (up (lyW mu r) r 7 k) := R32_up R1 _ _ (by omega)
  refine ⟨⟨?_, R2⟩, by rw [up_e, if_pos ⟨rfl, rfl⟩], hZ⟩
  have e' : ∀ (x : Nat) (i : Int), (x < r ∨ (r < x ∧ x < r + 6) ∨ (x = r ∧ i < 7)) → up (lyW mu r) r 7 k x i = mu x i := fun x i hx => by
    rw [up_e, if_neg (by omega), e x i (by omega)]
  rw [e' r 4 (by omega), e' r 6 (by omega)]
  refine A.1.off O (fun x i hx => e' x i (by omega)) (fun i h1 h2 => e' _ i (by omega)) (fun i h1 h2 => e' _ i (by omega)) (fun i h1 h2 => e' _ i (by omega))
/-- tab -/
theorem O_tab_f (A : Inv N mu c h t p b r) (x i : Int) : tbF9 (mu (r + 1) 2) x i = ftbF mu c x i := by
  obtain ⟨e, P, -⟩ := A.base
  unfold tbF9 ftbF pnF fiF
  rw [e]
  (repeat' split) <;> omega
theorem O_tab (A : Inv N mu c h t p b r) {x i : Int} (hf : ftbF mu c x i = 0) : tabF (lay mu (c + 2)) x i = ttF (trT mu r) (mu (r + 1) 2) x i := by
  obtain ⟨e, P, Lr⟩ := A.base
  have hx : 0 ≤ x ∧ x < mu c 2 := by
    unfold ftbF at hf
    split at hf
    · rename_i k; exact pn1.mp k
    · omega
  obtain ⟨u, R⟩ := Lr.rl
  have pr := R.wf.pan x (by omega) (by omega)
  have pa := R.pan x (by omega) (by omega)
  unfold tabF ttF
  rw [gL0 (by omega), e]
  by_cases z : lay mu (c + 2) 0 x = -1
  · rw [if_pos z, pa, if_pos z, if_pos rfl]
  · have us := R.pus (p := x) (by omega) z
    have ug := R.rng _ us
    rw [if_neg z, pa, if_neg z, if_neg (by omega)]
    exact (R.tabAt us (by omega) P Lr.cl i).symm
theorem Look.ab {u : Int → Int} {rk : Int → Nat} {wn : Int → Int} (K : Look mu c p r u rk wn) : ∀ (n d : Nat) (x : Int), 16 - rk x ≤ n → n < d → InT (lay mu (c + 2)) x → abE (trT mu r) d (trT mu r 1 (u x)) ∧ abG (trT mu r) d (trT mu r 1 (u x)) = pl mu p 7 x
  | n, 0, x, hn, hd, hx => by omega
  | n, d + 1, x, hn, hd, hx => by
    have W := K.rl.wf
    have b := hx.rg
    have pa := K.rl.par x hx.1
    rcases hx.hol W with e | s
    · have ro := K.pln.p0.tp.roo x hx e
      rw [if_neg (by omega)] at pa
      rw [pa]
      exact ⟨Or.inl rfl, by unfold abG; rw [if_pos rfl, ro.2.2.2.2]⟩
    · have hs := hx.par W s
      have us := K.rl.rng _ hs.1
      have z1 := s.1
      have z2 := s.2
      rw [if_pos ⟨z1, z2⟩] at pa
      have rg := W.mb.rng x (by omega) (by omega) (by omega)
      have hit := mbrF_hit W.mb (h := lay mu (c + 2) 0 x) (t := x) ⟨by omega, by omega⟩ rfl (by omega)
      have lt := K.rkk.2 x (by omega) (by omega) z1 z2
      have b16 := K.rkk.1 (lay mu (c + 2) 0 x)
      have ih := K.ab (n - 1) d (lay mu (c + 2) 0 x) (by omega) (by omega) hs
      have be := (K.pln.be _ hs s).1 (lay mu (c + 2) 1 x) rg.1 rg.2
      rw [hit] at be
      rw [pa]
      refine ⟨Or.inr ih.1, ?_⟩
      unfold abG
      rw [if_neg (by omega), ih.2, be.2.2.2.2]
theorem O_pane_f (A : Inv N mu c h t p b r) (x w : Int) : pnF9 (mu (r + 1) 2) x w = ppF mu c x w := by
  obtain ⟨e, P, -⟩ := A.base
  unfold pnF9 ppF pnF frF
  rw [e]
  (repeat' split) <;> omega
theorem gKr {P : Mem} {k m : Nat} {i : Int} (h : 0 ≤ i ∧ i < m) (hm : m ≤ 1000) : gK P k m i = P k i := by
  unfold gK
  rw [wr_id (by omega)]
  exact if_pos h
/-- the sizes that a group has, docked or floating -/
theorem Look.grp {u : Int → Int} {rk : Int → Nat} {wn : Int → Int} (K : Look mu c p r u rk wn) {g : Int} (hg : Us (lay mu (c + 2)) (-1) g) (h32 : g < 32) :
    ((pl mu p 5 (2 * g + 0) = zW mu r 9 (u g) ∧ pl mu p 5 (2 * g + 1) = zW mu r 10 (u g)) ∧ pl mu p 6 (2 * g + 0) = zW mu r 11 (u g) ∧ pl mu p 6 (2 * g + 1) = zW mu r 12 (u g)) ∧ (0 ≤ pl mu p 6 (2 * g + 1) ∧ pl mu p 6 (2 * g + 1) ≤ 400) ∧ abE (trT mu r) 40 (trT mu r 1 (u g)) ∧ abG (trT mu r) 40 (trT mu r 1 (u g)) = pl mu p 7 g := by
  have b := hg.1
  by_cases f : lay mu (c + 2) 0 g = 48
  · obtain ⟨f1, f2, f3, f4⟩ := K.flo g hg f
    have t0 := K.pln.p0.tp.flo g 0 b.1 h32 f (Or.inl rfl)
    have t1 := K.pln.p0.tp.flo g 1 b.1 h32 f (Or.inr rfl)
    have v := K.vl.flo g b.1 h32 f 1 (Or.inr rfl)
    have pa := K.rl.par g hg
    rw [if_neg (by omega)] at pa
    simp only [Int.add_zero] at t0 ⊢
    rw [t0.1, t0.2.1, t1.1, t1.2.1, t1.2.2, f1, f2, f3, f4, pa]
    exact ⟨⟨⟨rfl, rfl⟩, rfl, rfl⟩, by omega, Or.inl rfl, by unfold abG; rw [if_pos rfl]⟩
  · have hx : InT (lay mu (c + 2)) g := ⟨hg, f⟩
    have bx := K.box hx
    have bb := (K.pln.bx g hx).1 1 (Or.inr rfl)
    have ab := K.ab (16 - rk g) 40 g (Nat.le_refl _) (by omega) hx
    exact ⟨⟨bx.2.1, bx.2.2.1⟩, bb.2, ab⟩
theorem O_pane (A : Inv N mu c h t p b r) {x w : Int} (hf : ppF mu c x w = 0) :
    (trT mu r 9 x ≠ -1 → abE (trT mu r) 40 (trT mu r 1 (trT mu r 9 x))) ∧ paF mu c p x w = pvF mu r (trT mu r) (zW mu r) x w ∧ LyOk mu r (trT mu r) (zOf mu r) (mu (r + 1) 0) (mu (r + 1) 1) := by
  obtain ⟨e, P, Lr⟩ := A.base
  obtain ⟨u, rk, wn, K⟩ := A.look
  have hx : (0 ≤ x ∧ x < mu c 2) ∧ 0 ≤ w ∧ w ≤ 11 := by
    unfold ppF frF at hf
    split at hf
    · rename_i k
      split at hf
      · exact ⟨pn1.mp k, by omega⟩
      · omega
    · omega
  obtain ⟨hx, hw⟩ := hx
  have R := K.rl
  have pr := R.wf.pan x (by omega) (by omega)
  have pa := R.pan x (by omega) (by omega)
  have st := A.sx (x := x) (by omega)
  have l0 := A.1.st.lst (2 * x + 0) (by omega) (by omega)
  have l1 := A.1.st.lst (2 * x + 1) (by omega) (by omega)
  by_cases z : lay mu (c + 2) 0 x = -1
  · rw [if_pos z] at pa
    have s0 : sttF (lay mu (c + 2)) x = 0 := by unfold sttF; rw [aL_0 (by omega), if_pos z]
    refine ⟨fun h => absurd pa h, ?_, K.ok⟩
    by_cases w0 : w = 0
    · subst w0; rw [pa_0, pv_0, gKr (by omega) (by omega), l0.1, show 3 + (2 * x + 0) = 3 + 2 * x + 0 by omega]
    · by_cases w1 : w = 1
      · subst w1; rw [pa_1, pv_1, gKr (by omega) (by omega), l1.1, show 3 + (2 * x + 1) = 3 + 2 * x + 1 by omega]
      · unfold paF pvF
        rw [st, s0, pa, if_neg w0, if_neg w1, if_neg (show ¬ w < 2 by omega), if_pos rfl, if_pos rfl]
  · rw [if_neg z] at pa
    have us := R.pus (p := x) (by omega) z
    have ug := R.rng _ us
    obtain ⟨⟨⟨g1, g2⟩, g3, g4⟩, g5, g6, g7⟩ := K.grp us (by omega)
    have s0 : sttF (lay mu (c + 2)) x ≠ 0 := by
      unfold sttF; rw [aL_0 (by omega), if_neg z]; split <;> omega
    refine ⟨fun h => by rw [pa]; exact g6, ?_, K.ok⟩
    have pla := R.pla x (by omega) (by omega) z
    have act := R.act _ us (by omega)
    have tb := R.tabs us (by omega) (P := mu c 2) P Lr.cl
    have par := R.par _ us
    have wt := R.wt _ us
    have cas : w = 0 ∨ w = 1 ∨ w = 2 ∨ w = 3 ∨ w = 4 ∨ w = 5 ∨ w = 6 ∨ w = 7 ∨ w = 8 ∨ w = 9 ∨ w = 10 ∨ w = 11 := by omega
    have gx := gL0 (L := lay mu (c + 2)) (i := x) (by omega)
    have tn : trT mu r 9 x ≠ -1 := by rw [pa]; omega
    have uge : ¬ u (lay mu (c + 2) 0 x) = -1 := by omega
    rcases cas with rfl | rfl | rfl | rfl | rfl | rfl | rfl | rfl | rfl | rfl | rfl | rfl
    · rw [pa_0, pv_0, gKr (by omega) (by omega), l0.1, show 3 + (2 * x + 0) = 3 + 2 * x + 0 by omega]
    · rw [pa_1, pv_1, gKr (by omega) (by omega), l1.1, show 3 + (2 * x + 1) = 3 + 2 * x + 1 by omega]
    · rw [pa_2, pv_2, st]
    · rw [pa_3 _ _ _ _ s0, pv_3 _ _ _ _ _ tn, vg_3, gx, pa, gKr (by omega) (by omega), g1]
    · rw [pa_4 _ _ _ _ s0, pv_4 _ _ _ _ _ tn, vg_4, gx, pa, gKr (by omega) (by omega), g2]
    · rw [pa_5 _ _ _ _ s0, pv_5 _ _ _ _ _ tn, vg_5, gx, pa, gKr (by omega) (by omega), g3]
    · rw [pa_6 _ _ _ _ s0, pv_6 _ _ _ _ _ tn, vg_6, gx, pa]
      unfold rbF phF
      rw [gKr (by omega) (by omega), wr_id (by omega), ← g4]
      split <;> omega
    · rw [pa_7 _ _ _ _ s0, pv_7 _ _ _ _ _ tn, vg_7, gx, pa, act, gL4 (by omega)]
    · rw [pa_8 _ _ _ _ s0, pv_8 _ _ _ _ _ tn, vgq_8, gL1 (by omega), pla]
    · rw [pa_9 _ _ _ _ s0, pv_9 _ _ _ _ _ tn, vgq_9, gx, pa, e, tb, gL2 (by omega)]
    · rw [pa_10 _ _ _ _ s0, pv_10 _ _ _ _ _ tn, vgq_10, gx, pa, gL0 (by omega), gL3 (by omega)]
      by_cases y : 32 ≤ lay mu (c + 2) 0 (lay mu (c + 2) 0 x) ∧ lay mu (c + 2) 0 (lay mu (c + 2) 0 x) < 47
      · rw [if_pos y] at par
        have := R.rng _ (R.hus (t := lay mu (c + 2) 0 x) (by omega) y)
        rw [show spF (lay mu (c + 2) 0 (lay mu (c + 2) 0 x)) = 1 from if_pos y, if_pos rfl, if_neg (by omega), wt y.1 y.2]
      · rw [if_neg y] at par
        rw [show spF (lay mu (c + 2) 0 (lay mu (c + 2) 0 x)) = 0 from if_neg y, if_neg (by omega), if_pos par]
    · rw [pa_11 _ _ _ _ s0, pv_11 _ _ _ _ _ tn, vgq_11, gx, pa, gKr (by omega) (by omega), g7]
end Q1
