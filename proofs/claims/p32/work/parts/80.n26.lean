/-! A TURN: docking, at an edge, afloat, closing -/
section T2
variable {N : Int} {mu : Mem} {c h t p b q w : Nat}
theorem lay_off {m m' : Mem} {b' : Nat} (e : ∀ (x : Nat) (i : Int), x < b' + 9 → m' x i = m x i) : lay m' b' = lay m b' := by
  funext k i
  show (if _ then _ else _) = (if _ then _ else _)
  by_cases z : k ≤ 7
  · rw [if_pos z, if_pos z]; exact e _ _ (by omega)
  · rw [if_neg z, if_neg z]
/-- first the class, then the law -/
theorem cls_law (O : Od c h t p b q w) (A : Wi N mu c h t p b w) (hN : 1000000 ≤ N ∧ N ≤ 10000000) {L' T' : Mem} (l1 : LR (N + 20) L' T' (mu c 2)) (B : Bd (N + 20) L') {m1 : Mem} (e1 : m1 = stlM (putL (pshM mu c h) (c + 2) L') p c) :
    Lr m1 w (lay mu (c + 2)) (mu c 2) (-1) ∧ R32 m1 ∧ m1 w 2 = mu w 2 ∧ m1 w 3 = mu w 3 ∧ m1 w 4 = mu w 4 ∧ (∀ (k : Nat) (i : Int), k < 8 → lay m1 (c + 2) k i = L' k i) ∧
      ∀ m2 : Mem, Fr m1 m2 w → R32 m2 → Lr m2 w L' (mu c 2) (-1) → Wi (N + 20) m2 c h t p b w := by
  obtain ⟨c1, c2, c3, c4, c5⟩ := A.cw.lay9 O ⟨by omega, by omega, by omega⟩ l1 B
  rw [← e1] at c1 c2 c3 c4 c5
  refine ⟨A.lr.mvm (fun a i h1 h2 => c2 a i h1), c1.2, c2 _ _ (by omega), c2 _ _ (by omega), c2 _ _ (by omega), c5, fun m2 F R2 B2 => ?_⟩
  refine Wi.mk9 O c1 F R2 B2 (l1.ly9 A.p5) (c3 2) c5 ⟨?_, ?_⟩ (fun k k1 k2 => ?_)
  · rw [c2 w 0 (by omega), c3]; exact A.hd.1
  · rw [c2 w 1 (by omega), c3]; exact A.hd.2
  · rw [c2 (w + 2) (4 * k) (by omega), c2 (w + 2) (4 * k + 1) (by omega), c4, c4]
    exact A.ls k k1 k2
/-- first the law, then the class -/
theorem law_cls (O : Od c h t p b q w) (A : Wi N mu c h t p b w) (hN : 1000000 ≤ N ∧ N ≤ 10000000) {m' : Mem} (F : Fr mu m' w) (R' : R32 m') {L' T' : Mem} (l1 : LR (N + 20) L' T' (mu c 2)) (B : Bd (N + 20) L') (B2 : Lr m' w L' (mu c 2) (-1)) {m3 : Mem} (e3 : m3 = stlM (putL (pshM m' c h) (c + 2) L') p c) :
    (∀ (k : Nat) (i : Int), k < 8 → lay m3 (c + 2) k i = L' k i) ∧ (∀ (x : Nat) (i : Int), w ≤ x → m3 x i = m' x i) ∧ Wi (N + 20) m3 c h t p b w := by
  have O' := O
  obtain ⟨o1, o2, o3, o4, o5, o6⟩ := O'
  have e : ∀ (x : Nat) (i : Int), x < w → m' x i = mu x i := fun x i hx => F.off x i (Or.inl hx)
  have C := A.cw.off O e R'
  have e2 := e c 2 (by omega)
  rw [← e2] at l1
  obtain ⟨c1, c2, c3, c4, c5⟩ := C.lay9 O ⟨by omega, by omega, by omega⟩ l1 B
  rw [← e3] at c1 c2 c3 c4 c5
  rw [e2] at l1
  refine ⟨c5, c2, Wi.mk9 O c1 (Fr.rf m3 w) c1.2 (B2.mvm (fun a i h1 h2 => c2 a i h1)) (l1.ly9 A.p5) ((c3 2).trans e2) c5 ⟨?_, ?_⟩ (fun k k1 k2 => ?_)⟩
  · rw [c2 w 0 (by omega), c3, F.hd.1, e _ _ (by omega)]; exact A.hd.1
  · rw [c2 w 1 (by omega), c3, F.hd.2.1, e _ _ (by omega)]; exact A.hd.2
  · have p5 := A.p5
    have f := F.lst k k1 (by omega)
    rw [c2 (w + 2) (4 * k) (by omega), c2 (w + 2) (4 * k + 1) (by omega), c4, c4, f.1, f.2, e (c + 1) (2 * k) (by omega), e (c + 1) (2 * k + 1) (by omega)]
    exact A.ls k k1 k2
/-- what the class sees behind the law's change -/
theorem law_see (O : Od c h t p b q w) (A : Wi N mu c h t p b w) (hN : 1000000 ≤ N ∧ N ≤ 10000000) {m' : Mem} (F : Fr mu m' w) (R' : R32 m') : Wo m' c h t p ∧ lay (pshM m' c h) (c + 2) = lay mu (c + 2) ∧ lay m' (c + 2) = lay mu (c + 2) ∧ m' c 2 = mu c 2 := by
  have O' := O
  obtain ⟨o1, o2, o3, o4, o5, o6⟩ := O'
  have e : ∀ (x : Nat) (i : Int), x < w → m' x i = mu x i := fun x i hx => F.off x i (Or.inl hx)
  have C := A.cw.off O e R'
  have el : lay m' (c + 2) = lay mu (c + 2) := lay_off fun x i hx => e x i (by omega)
  exact ⟨C.wo ⟨by omega, by omega⟩, by rw [lay_pshM C.nxt o1, el], el, e _ _ (by omega)⟩
theorem jD_open {mu mu' : Mem} {w : Nat} {p t side an : Int} (hp : 0 ≤ p ∧ p < 5) (H : jD mu w p t side mu' an) : 0 ≤ mu' (w + 2) (4 * p + 2) := by
  obtain ⟨m1, hK, h3, hto, H⟩ := H
  rcases H with ⟨-, rfl, ea⟩ | ⟨-, ea, g, o, hfg, hi, hu, hd⟩
  · unfold jDt
    rw [up_e, if_neg (by omega), up_s]
    exact hto.1
  · have F2 : jF m1 w p g (w + 2) (4 * p + 2) = g := by
      have := hfg.1
      unfold jF
      rw [up_e, if_neg (by omega), up_e, if_neg (by omega), up_s]
    have hg := hfg.1
    rcases hd with ⟨-, rfl⟩ | ⟨-, rfl⟩
    · rw [jP_x _ _ _ _ _ _ (by omega), F2]
      exact hg.1
    · rw [jP_x _ _ _ _ _ _ (by omega), jP_x _ _ _ _ _ _ (by omega), up_e, if_neg (by omega), jP_x _ _ _ _ _ _ (by omega), F2]
      exact hg.1
theorem dock_w (O : Od c h t p b q w) (A : Wi N mu c h t p b w) (hN : 1000000 ≤ N ∧ N ≤ 10000000) {x y side : Int} (hx : 0 ≤ x ∧ x < mu w 2) (hy : 0 ≤ y ∧ y < mu w 2) (hxy : x ≠ y) (hs : 0 ≤ side ∧ side ≤ 4) :
    ((jX mu w y = 0 ∨ (jX mu w y = 2 ∧ side < 4)) → fdF mu c x y side = 3) ∧
    (¬ (jX mu w y = 0 ∨ (jX mu w y = 2 ∧ side < 4)) → fdF mu c x y side = 0 ∧ ∀ m1 : Mem, m1 = stlM (putL (pshM mu c h) (c + 2) (dkF (lay (pshM mu c h) (c + 2)) x y side)) p c → ∃ (m2 : Mem) (an : Int), gL (lay m1 (c + 2)) 2 (gL (lay m1 (c + 2)) 0 x) = an ∧ (-2147483648 ≤ an ∧ an ≤ 2147483647) ∧
      jD m1 w x y side m2 an ∧ R32 m1 ∧ (0 ≤ x ∧ x < m1 w 2) ∧ m1 w 2 ≤ 5 ∧ (0 ≤ m1 w 3 ∧ m1 w 3 ≤ 16) ∧ Wi (N + 20) m2 c h t p b w) := by
  have H := A.ly
  have p5 := A.p5
  have np := A.lr.np
  have m13 := A.lr.m13 H
  obtain ⟨sy, oy⟩ := A.lr.stt9 H (a := y) ⟨hy.1, by omega⟩
  have sb := sttF_b (lay mu (c + 2)) y
  have px : pnF mu c x = 1 := if_pos ⟨hx.1, by omega⟩
  have py : pnF mu c y = 1 := if_pos ⟨hy.1, by omega⟩
  have nx := A.cw.nxt
  obtain ⟨T, hT⟩ := A.cw.lyt
  have bd := A.cw.bd9 (by omega)
  refine ⟨fun hb => ?_, fun hb => ?_⟩
  · unfold fdF
    rw [if_pos ⟨px, py⟩, if_neg (by omega), sy, if_neg (by omega)]
  · have st : sttF (lay mu (c + 2)) y = 1 ∨ sttF (lay mu (c + 2)) y = 2 ∧ side = 4 := by omega
    refine ⟨?_, fun m1 e1 => ?_⟩
    · unfold fdF
      rw [if_pos ⟨px, py⟩, if_neg (by omega), if_pos st]
    · rw [lay_pshM nx O.1] at e1
      obtain ⟨l1, -, -⟩ := hT.dock (p := x) (t := y) (s := side) ⟨hx.1, by omega⟩ ⟨hy.1, by omega⟩ hxy hs (by omega) st (by omega)
      have lm := l1.mono (show N + 3 ≤ N + 20 by omega) (Int.le_refl _)
      obtain ⟨B1, R1, w2, w3, -, eL, fin⟩ := cls_law O A hN lm ((dkF_bd bd (by omega) (by omega) y side).mono (by omega)) e1
      have s0 : lay mu (c + 2) 0 y ≠ -1 := stt0 ⟨hy.1, by omega⟩ (by omega)
      have dk : ∃ m2 : Mem, jD m1 w x y side m2 (dkF (lay mu (c + 2)) x y side 2 (dkF (lay mu (c + 2)) x y side 0 x)) ∧ Lr m2 w (dkF (lay mu (c + 2)) x y side) (mu c 2) (-1) ∧ Fr m1 m2 w := by
        by_cases q4 : side = 4
        · subst q4
          exact dock_tab B1 hT (by omega) p5 ⟨hx.1, by omega⟩ ⟨hy.1, by omega⟩ hxy s0
        · refine dock_side B1 hT (by omega) p5 ⟨hx.1, by omega⟩ ⟨hy.1, by omega⟩ hxy ⟨hs.1, by omega⟩ s0 (fun f48 => ?_)
          have := st
          unfold sttF at this
          have r := (oy s0).1
          rw [aL_0 (i := y) ⟨by omega, by omega⟩, if_neg s0, aL_0 (i := lay mu (c + 2) 0 y) ⟨by omega, by omega⟩, if_pos f48] at this
          omega
      obtain ⟨m2, hD, B2, F⟩ := dk
      obtain ⟨R2, an⟩ := jD_R R1 (by omega) (by omega) ⟨hx.1, by omega⟩ hs hD
      have op := jD_open ⟨hx.1, by omega⟩ hD
      have g2 := B2.grp x hx.1 (by omega)
      have H2 := lm.ly9 p5
      have pw := H2.wf.pan x hx.1 (by omega)
      refine ⟨m2, _, ?_, an, hD, R1, ⟨hx.1, by omega⟩, by omega, ⟨by omega, by omega⟩, fin m2 F R2 B2⟩
      have o0 : dkF (lay mu (c + 2)) x y side 0 x ≠ -1 := fun z => by rw [if_pos z] at g2; omega
      rw [gL0 (i := x) ⟨by omega, by omega⟩, eL 0 x (by omega), gL2 ⟨by omega, by omega⟩, eL 2 _ (by omega)]
theorem edge_w (O : Od c h t p b q w) (A : Wi N mu c h t p b w) (hN : 1000000 ≤ N ∧ N ≤ 10000000) {x side : Int} (hx : 0 ≤ x ∧ x < mu w 2) (hs : 0 ≤ side ∧ side ≤ 3) :
    fgF mu c x side = 0 ∧ ∀ m1 : Mem, m1 = stlM (putL (pshM mu c h) (c + 2) (dwF (lay (pshM mu c h) (c + 2)) x side)) p c → ∃ m2 : Mem, m1 p 9 - m1 p 10 = jG m2 w ∧
      jE m1 w x side m2 ∧ R32 m1 ∧ (0 ≤ x ∧ x < m1 w 2) ∧ m1 w 2 ≤ 5 ∧ (0 ≤ m1 w 3 ∧ m1 w 3 ≤ 16) ∧ (0 ≤ m2 w 3 ∧ m2 w 3 ≤ 16) ∧ R32 m2 ∧ Wi (N + 20) m2 c h t p b w := by
  have H := A.ly
  have p5 := A.p5
  have np := A.lr.np
  have m13 := A.lr.m13 H
  have px : pnF mu c x = 1 := if_pos ⟨hx.1, by omega⟩
  have nx := A.cw.nxt
  obtain ⟨T, hT⟩ := A.cw.lyt
  have bd := A.cw.bd9 (by omega)
  have O' := O
  obtain ⟨o1, o2, o3, o4, o5, o6⟩ := O'
  refine ⟨?_, fun m1 e1 => ?_⟩
  · unfold fgF frF
    rw [if_pos px, if_pos hs]
  · rw [lay_pshM nx O.1] at e1
    obtain ⟨l1, -⟩ := hT.edge (p := x) (s := side) ⟨hx.1, by omega⟩ hs (by omega) (by omega)
    have lm := l1.mono (show N + 3 ≤ N + 20 by omega) (Int.le_refl _)
    obtain ⟨B1, R1, w2, w3, -, eL, fin⟩ := cls_law O A hN lm ((dwF_bd bd (by omega) (by omega) side).mono (by omega)) e1
    obtain ⟨m2, hE, B2, F⟩ := edge_e B1 hT (by omega) p5 (p := x) ⟨hx.1, by omega⟩ hs
    have R2 := jE_R R1 (by omega) (by omega) ⟨hx.1, by omega⟩ ⟨hs.1, by omega⟩ hE
    have W2 := fin m2 F R2 B2
    obtain ⟨-, -, -, -, -, -, -, -, -, v5, -, -, -, v3, -⟩ := W2.al.all
    refine ⟨m2, ?_, hE, R1, ⟨hx.1, by omega⟩, by omega, ⟨by omega, by omega⟩, ⟨v3.1, by omega⟩, R2, W2⟩
    rw [← v5, (whF_07 m2 c p).2.2.2.2.2.1, F.off _ _ (Or.inl (by omega)), F.off _ _ (Or.inl (by omega))]
end T2
