/-! DRAG: the layout behind it -/
theorem drgT_N {N : Int} {T Z : Mem} {s g d : Int} (hB : TB N T) (hN : 1000000 ≤ N) (hd : -400 ≤ d ∧ d ≤ 400) {m : Nat} (hE : ∀ i : Int, 0 ≤ i → i < m → 0 ≤ exF T Z s (chT T s i) ∧ exF T Z s (chT T s i) ≤ 400) : ∀ j : Nat, j ≤ m → TB N (drgT T Z s g d j)
  | 0, _ => hB
  | j + 1, hj => by
    have e := hE j (by omega) (by omega)
    rw [drgT]
    refine (drgT_N hB hN hd hE j (by omega)).upd _ _ ?_ (by omega) (by omega)
    unfold drgV
    (repeat' split) <;> omega
theorem mdS_row {L P : Mem} {s ax : Int} {k : Nat} (hk : k ≠ 3) : ∀ j : Nat, mdS L P s ax j k = L k
  | 0 => rfl
  | j + 1 => by rw [mdS, sL_row hk]; exact mdS_row hk j
theorem mdS_bd {N : Int} {L P : Mem} {s ax : Int} (hB : Bd N L) (hN : 1000 ≤ N ∧ N ≤ 2147483647) {m : Nat} (hb : ∀ j : Int, 0 ≤ j → j < m → 0 ≤ gK P 6 98 (2 * mo P s j + ax) ∧ gK P 6 98 (2 * mo P s j + ax) ≤ 400) : ∀ j : Nat, j ≤ m → Bd N (mdS L P s ax j)
  | 0, _ => hB
  | j + 1, hj => by
    have := hb j (by omega) (by omega)
    rw [mdS]
    exact sL_bd (mdS_bd hB hN hb j (by omega)) _ _ hN.2 (by omega)
section DM
variable {N : Int} {mu : Mem} {c h t p b q r : Nat}
/-- what a drag that is allowed tells -/
theorem fdr0 {x d : Int} (hf : fdrF mu c p x d = 0) : (0 ≤ x ∧ x < mu c 2) ∧ (-400 ≤ d ∧ d ≤ 400) ∧ spF (gL (lay mu (c + 2)) 0 (gL (lay mu (c + 2)) 0 x)) ≠ 0 ∧ tiF (pl mu p) (gL (lay mu (c + 2)) 0 (gL (lay mu (c + 2)) 0 x)) ≠ 1 ∧
    mbrF (lay mu (c + 2)) (gL (lay mu (c + 2)) 0 (gL (lay mu (c + 2)) 0 x)) (gL (lay mu (c + 2)) 1 (gL (lay mu (c + 2)) 0 x) + 1) ≠ -1 ∧
    0 ≤ wr (spaF (pl mu p) (gL (lay mu (c + 2)) 0 x) (gL (lay mu (c + 2)) 5 (gL (lay mu (c + 2)) 0 (gL (lay mu (c + 2)) 0 x) - 32)) + d) ∧
    0 ≤ wr (spaF (pl mu p) (mbrF (lay mu (c + 2)) (gL (lay mu (c + 2)) 0 (gL (lay mu (c + 2)) 0 x)) (gL (lay mu (c + 2)) 1 (gL (lay mu (c + 2)) 0 x) + 1)) (gL (lay mu (c + 2)) 5 (gL (lay mu (c + 2)) 0 (gL (lay mu (c + 2)) 0 x) - 32)) - d) := by
  unfold fdrF at hf
  by_cases h1 : pnF mu c x = 1
  · rw [if_pos h1] at hf
    by_cases h2 : d < -400 ∨ 400 < d
    · rw [if_pos h2] at hf; omega
    · rw [if_neg h2] at hf
      by_cases h3 : spF (gL (lay mu (c + 2)) 0 (gL (lay mu (c + 2)) 0 x)) = 0 ∨ tiF (pl mu p) (gL (lay mu (c + 2)) 0 (gL (lay mu (c + 2)) 0 x)) = 1
      · rw [if_pos h3] at hf; omega
      · rw [if_neg h3] at hf
        by_cases h4 : mbrF (lay mu (c + 2)) (gL (lay mu (c + 2)) 0 (gL (lay mu (c + 2)) 0 x)) (gL (lay mu (c + 2)) 1 (gL (lay mu (c + 2)) 0 x) + 1) = -1
        · rw [if_pos h4] at hf; omega
        · rw [if_neg h4] at hf
          split at hf
          · rename_i h5
            exact ⟨pn1.mp h1, by omega, fun e => h3 (Or.inl e), fun e => h3 (Or.inr e), h4, h5.1, h5.2⟩
          · omega
  · rw [if_neg h1] at hf; omega
/-- the layout and the tree behind a drag -/
theorem dragLR (A : Inv N mu c h t p b r) (hN : 1000000 ≤ N ∧ N ≤ 10000000) {mr : Mem} {u : Int → Int} {rk : Int → Nat} {wn : Int → Int} (K : Lkk mu mr c p r u rk wn) (eT : trT mr r = trT mu r) {Z : Mem} (eZ : ∀ (k : Nat) (i : Int), k = 11 ∨ k = 12 → Z k i = zW mr r k i) {x d : Int} (hf : fdrF mu c p x d = 0) {g s ax : Int} (eg : g = lay mu (c + 2) 0 x) (es : s = lay mu (c + 2) 0 g) (ea : ax = lay mu (c + 2) 5 (s - 32)) :
    (16 ≤ g ∧ g < 32) ∧ InT (lay mu (c + 2)) g ∧ isZ s ∧ InT (lay mu (c + 2)) s ∧ trT mr r 9 x = u g ∧ trT mr r 1 (u g) = u s ∧ kdT (trT mr r) (u s) = lay mu (c + 2) 2 s ∧ lay mu (c + 2) 2 s ≤ 16 ∧ (ax = 0 ∨ ax = 1) ∧
    (∀ i : Int, 0 ≤ i → i < lay mu (c + 2) 2 s → (0 ≤ exF (trT mr r) Z (u s) (chT (trT mr r) (u s) i) ∧ exF (trT mr r) Z (u s) (chT (trT mr r) (u s) i) ≤ 400) ∧ 0 ≤ chT (trT mr r) (u s) i) ∧
    Rl u (mdF (lay mu (c + 2)) (pl mu p) g ax d) (drgT (trT mr r) Z (u s) (u g) d (lay mu (c + 2) 2 s).toNat) (-1) 1 ∧
    LR (N + 20) (mdF (lay mu (c + 2)) (pl mu p) g ax d) (drgT (trT mr r) Z (u s) (u g) d (lay mu (c + 2) 2 s).toNat) (mu c 2) ∧ Bd (N + 20) (mdF (lay mu (c + 2)) (pl mu p) g ax d) ∧ (∀ k : Nat, k ≠ 3 → mdF (lay mu (c + 2)) (pl mu p) g ax d k = lay mu (c + 2) k) := by
  obtain ⟨e, Pb, Lr⟩ := A.base
  obtain ⟨f1, f2, f3, f4, f5, f6, f7⟩ := fdr0 hf
  have hB := (A.1.bd (by omega)).1
  have R := K.rl
  have W := R.wf
  obtain ⟨i1, i2, i3, i4⟩ := inSplit W (x := x) (by omega) f3
  rw [i1, ← eg] at f4 f5 f6 f7
  rw [← eg] at i2 i3 i4
  rw [i3, ← es] at f4 f5 f6 f7
  rw [← es] at i4
  have hz : isZ s := i4
  have s1 : lay mu (c + 2) 0 x ≠ -1 := by omega
  have us := R.pus (p := x) (by omega) s1
  rw [← eg] at us
  have hg : InT (lay mu (c + 2)) g := ⟨us, by omega⟩
  have hs : InT (lay mu (c + 2)) s := by rw [es]; exact hg.par W (by rw [← es]; exact hz)
  have axs : ax = 0 ∨ ax = 1 := by rw [ea]; exact W.axs s hz.1 hz.2
  have rg := W.mb.rng g (by omega) (by omega) (by omega)
  rw [← es] at rg
  have c16 := W.cnt16 K.fu (h := s) ⟨by omega, by omega⟩
  rw [gL5 (by omega), ← ea] at f6 f7
  rw [gL1 (by omega)] at f5 f7
  generalize hL : lay mu (c + 2) = L at *
  generalize hP : pl mu p = P at *
  generalize hT9 : trT mr r = T at *
  have nl : L 1 g + 1 < L 2 s := by
    rcases Int.lt_or_le (L 1 g + 1) (L 2 s) with y | y
    · exact y
    · exact absurd (mbrF_out W.mb (by omega) (Or.inr y)) f5
  obtain ⟨n1, n2, n3⟩ := mbrF_get W.mb (h := s) (i := L 1 g + 1) (by omega) ⟨by omega, nl⟩
  generalize hnx : mbrF L s (L 1 g + 1) = nx at *
  have hn : InT L nx := InT.kid W hz n1 n2
  have ng : nx ≠ g := fun e9 => by rw [e9] at n3; omega
  have M := K.pln.p0.mt
  rw [hL, hP] at M
  have szs : ∀ y : Int, InT L y → exF T Z (u s) (u y) = P 6 (2 * y + ax) ∧ (0 ≤ P 6 (2 * y + ax) ∧ P 6 (2 * y + ax) ≤ 400) ∧ (1 ≤ P 4 (2 * y + ax) ∧ P 4 (2 * y + ax) ≤ 1000) := fun y hy => by
    have sz := K.sz (s := s) (x := y) (by rw [hL]; exact hs) hz (by rw [hL]; exact hy)
    rw [hL, hP, hT9, ← ea] at sz
    refine ⟨?_, sz.2.2.1, sz.2.2.2.1⟩
    rw [← sz.1]
    unfold exF
    rw [eZ 11 _ (Or.inl rfl), eZ 12 _ (Or.inr rfl)]
  have sg := szs g hg
  have sn := szs nx hn
  have nb := hn.rg
  unfold spaF at f6 f7
  rw [gKr (by omega) (by omega), gKr (by omega) (by omega), wr_id (by omega)] at f6 f7
  have be := K.pln.be s (by rw [hL]; exact hs) hz
  rw [hL, hP] at be
  have nt : ¬ cel L (P 6 (2 * s + L 5 (s - 32))) s ≤ smG (leC P L s) (L 2 s).toNat := fun y => by
    have e8 := be.2
    unfold tgC at e8
    rw [if_pos y] at e8
    refine f4 ?_
    unfold tiF
    rw [gKr (by omega) (by omega), if_pos e8]
  have bs := (K.pln.bx s (by rw [hL]; exact hs)).1 (L 5 (s - 32)) (by rw [← ea]; exact axs)
  rw [hP] at bs
  have vl := K.vl
  have lel := K.lel
  have fu := K.fu
  have pwe := K.pln.p0.we
  rw [hL] at vl lel fu pwe
  rw [hP] at pwe
  have so := shOk_e W fu K.leb lel vl pwe hs hz (sz := P 6 (2 * s + L 5 (s - 32))) (by omega)
  have ge : ∀ y : Int, 0 ≤ y → y < 49 → L 0 y = s → P 4 (2 * y + ax) ≤ P 6 (2 * y + ax) := fun y y1 y2 y3 => by
    have r9 := W.mb.rng y y1 y2 (by omega)
    rw [y3] at r9
    have hit := mbrF_hit W.mb ⟨y1, y2⟩ y3 (by omega)
    have b1 := (be.1 (L 1 y) r9.1 r9.2).2.1
    have b2 := shr_ge so (by omega) (k := L 1 y) (by omega)
    have b3 : leC P L s (L 1 y) = P 4 (2 * y + ax) := by unfold leC VC; rw [hit, ea]
    have b4 : shC P L s (L 1 y) = shr (L 2 s).toNat (cel L (P 6 (2 * s + L 5 (s - 32))) s) (leC P L s) (wtC L s) (L 1 y) := rfl
    rw [hit, ← ea, b4] at b1
    rw [b3] at b2
    omega
  have nn := W.mb.nng s (by omega) (by omega)
  have eM : mdF L P g ax d = up (up (mdS L P s ax (L 2 s).toNat) 3 g (P 6 (2 * g + ax) + d)) 3 nx (P 6 (2 * nx + ax) - d) := by
    unfold mdF
    rw [gL0 (by omega), ← es, gL2 (by omega), gL1 (by omega), moT_e M (by omega) (by omega), hnx, gKr (by omega) (by omega), gKr (by omega) (by omega), sL3 (i := g) (by omega) (by omega), sL3 (by omega) (by omega)]
  have row : ∀ k : Nat, k ≠ 3 → mdF L P g ax d k = L k := fun k hk => by
    rw [eM]
    funext o
    rw [up_a _ _ _ _ hk, up_a _ _ _ _ hk, mdS_row hk]
  have cb : ∀ j : Int, 0 ≤ j → j < L 2 s → InT L (mbrF L s j) := fun j h1 h2 => by
    obtain ⟨m1, m2, m3⟩ := mbrF_get W.mb (h := s) (i := j) (by omega) ⟨h1, h2⟩
    exact InT.kid W hz m1 m2
  have r3 : ∀ o : Int, 0 ≤ o → o < 49 → mdF L P g ax d 3 o = if L 0 o = s then P 6 (2 * o + ax) + (if o = g then d else if L 1 o = L 1 g + 1 then -d else 0) else L 3 o := fun o o1 o2 => by
    have m3 := mdS_3 W M (s := s) (ax := ax) hz axs (fun j h1 h2 => by have := szs _ (cb j h1 h2); omega) (L 2 s).toNat (by omega) (by omega) o o1 o2
    rw [eM, up_e, up_e, m3]
    by_cases z1 : o = nx
    · rw [if_pos (show (3 : Nat) = 3 ∧ o = nx from ⟨rfl, z1⟩), if_pos (show L 0 o = s by rw [z1]; exact n2), if_neg (show ¬ o = g by omega), if_pos (show L 1 o = L 1 g + 1 by rw [z1]; exact n3), z1]
      omega
    · rw [if_neg (show ¬ ((3 : Nat) = 3 ∧ o = nx) from fun w => z1 w.2)]
      by_cases z2 : o = g
      · rw [if_pos (show (3 : Nat) = 3 ∧ o = g from ⟨rfl, z2⟩), if_pos (show L 0 o = s by rw [z2, es]), if_pos z2, z2]
      · rw [if_neg (show ¬ ((3 : Nat) = 3 ∧ o = g) from fun w => z2 w.2)]
        by_cases z3 : L 0 o = s
        · have r9 := W.mb.rng o o1 o2 (by omega)
          rw [z3] at r9
          have z4 : ¬ L 1 o = L 1 g + 1 := fun w => z1 (W.mb.inj o nx o1 o2 n1.1 n1.2 (by omega) (by omega) (by omega))
          rw [if_pos (show L 0 o = s ∧ L 1 o < ((L 2 s).toNat : Int) from ⟨z3, by omega⟩), if_pos z3, if_neg z2, if_neg z4]
          omega
        · rw [if_neg (fun w => z3 w.1), if_neg z3]
  have pa := R.pan x (by omega) (by omega)
  rw [← eg, if_neg (by omega)] at pa
  have pg := R.par g us
  rw [← es, if_pos (show 32 ≤ s ∧ s < 47 from hz)] at pg
  have kd := R.kids hs.1 hz.1
  have hE : ∀ i : Int, 0 ≤ i → i < L 2 s → (0 ≤ exF T Z (u s) (chT T (u s) i) ∧ exF T Z (u s) (chT T (u s) i) ≤ 400) ∧ 0 ≤ chT T (u s) i := fun i h1 h2 => by
    rw [R.kid hs.1 hz.1 ⟨h1, h2⟩]
    have q := szs _ (cb i h1 h2)
    rw [q.1]
    exact ⟨q.2.1, (R.rng _ (cb i h1 h2).1).1⟩
  have Rn : Rl u (mdF L P g ax d) (drgT T Z (u s) (u g) d (L 2 s).toNat) (-1) 1 := by
    refine R.wts row (fun w o hw => drgT_k T Z _ _ _ hw o _) fun y hy y1 y2 => ?_
    have yb := hy.1
    rw [drgT_3 R hs.1 hz.1 us es.symm hy (L 2 s).toNat (by omega), r3 y (by omega) (by omega)]
    by_cases z : L 0 y = s
    · have hyT : InT L y := ⟨hy, by omega⟩
      have r9 := W.mb.rng y (by omega) (by omega) (by omega)
      rw [z] at r9
      rw [if_pos (show L 0 y = s ∧ L 1 y < ((L 2 s).toNat : Int) from ⟨z, by omega⟩), if_pos z, (szs y hyT).1]
    · rw [if_neg (fun w => z w.1), if_neg z]
      exact R.wt y hy y1 y2
  have hB' : Bd (N + 20) (mdF L P g ax d) := by
    have b0 := mdS_bd (s := s) (ax := ax) (P := P) hB (by omega) (m := (L 2 s).toNat) (fun j h1 h2 => by
      rw [moT_e M (by omega) (by omega)]
      have q := szs _ (cb j h1 (by omega))
      have qb := (cb j h1 (by omega)).rg
      rw [gKr (by omega) (by omega)]
      exact q.2.1) (L 2 s).toNat (Nat.le_refl _)
    intro k o
    have := b0 k o
    rw [eM, up_e, up_e]
    (repeat' split) <;> omega
  refine ⟨by omega, hg, hz, hs, pa, pg, kd, c16, axs, hE, Rn, LR.mk ⟨u, Rn⟩ (fun y h1 h2 => ?_) (fun y h1 h2 => ?_) (Vl.mk (fun y h1 h2 h3 => ?_) (fun y h1 h2 h3 => ?_)) ?_, hB', row⟩
  · rw [row 0 (by omega), row 2 (by omega)]; exact fu y h1 h2
  · rw [row 0 (by omega)]; exact Lr.cl y h1 h2
  · rw [row 0 (by omega)] at h3
    rw [r3 y h1 h2]
    by_cases z : L 0 y = s
    · have hyT : InT L y := InT.kid W hz ⟨h1, h2⟩ z
      have q := szs y hyT
      have g9 := ge y h1 h2 z
      rw [if_pos z]
      by_cases z1 : y = g
      · rw [if_pos z1, z1]; omega
      · rw [if_neg z1]
        by_cases z2 : L 1 y = L 1 g + 1
        · have : y = nx := W.mb.inj y nx h1 h2 n1.1 n1.2 (by omega) (by omega) (by omega)
          rw [if_pos z2, this]; omega
        · rw [if_neg z2]; omega
    · rw [if_neg z]; exact vl.wts y h1 h2 h3
  · rw [row 0 (by omega)] at h3
    rw [row 6 (by omega), row 7 (by omega)]
    exact vl.flo y h1 h2 h3
  · exact (drgT_N (N := N + 20) (m := (L 2 s).toNat) ((show TB N T by rw [eT]; exact Lr.tb).mono (by omega)) (by omega) f2 (fun i h1 h2 => (hE i h1 (by omega)).1) _ (Nat.le_refl _))
end DM
