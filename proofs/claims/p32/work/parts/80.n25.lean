/-! A TURN: the window, a least size, a new pane -/
section T1
variable {N : Int} {mu : Mem} {c h t p b q w : Nat}
theorem Lr.hd9 {mu' : Mem} {L : Mem} {P : Int} (A : Lr mu w L P (-1)) (e : ∀ (a : Nat) (i : Int), w ≤ a → a ≤ w + 3 → (a = w → 2 ≤ i) → (a = w + 2 → 20 ≤ i ∨ 2 ≤ i % 4) → mu' a i = mu a i) : Lr mu' w L P (-1) := by
  refine Lr.mk ?_ ?_ (fun k h1 h2 => ?_) (fun k h1 h2 h3 => ?_) (fun x h1 h2 h3 => ?_) ?_ (fun t h1 h2 h3 => ?_) A.low
  · obtain ⟨o, c, S⟩ := A.sg
    rw [e w 3 (by omega) (by omega) (by omega) (by omega), show mu' (w + 1) = mu (w + 1) from funext fun i => e _ i (by omega) (by omega) (by omega) (by omega)]
    exact ⟨o, c, S⟩
  · rw [e _ _ (by omega) (by omega) (by omega) (by omega)]; exact A.np
  · rw [e _ _ (by omega) (by omega) (by omega) (by omega)]; exact A.grp k h1 h2
  · rw [e _ _ (by omega) (by omega) (by omega) (by omega)]; exact A.pla k h1 h2 h3
  · rw [e _ _ (by omega) (by omega) (by omega) (by omega)]; exact A.act x h1 h2 h3
  · rw [e _ _ (by omega) (by omega) (by omega) (by omega)]; exact A.flo
  · rw [e _ _ (by omega) (by omega) (by omega) (by omega)]; exact A.fli t h1 h2 h3
theorem lay_cg {m m' : Mem} {b' : Nat} (e : ∀ (x : Nat) (i : Int), b' + 1 ≤ x → x ≤ b' + 8 → m' x i = m x i) (k : Nat) (i : Int) (hk : k < 8) : lay m' b' k i = lay m b' k i := by
  rw [lay_e hk, lay_e hk]
  exact e _ _ (by omega) (by omega)
theorem win_w (O : Od c h t p b q w) (A : Wi N mu c h t p b w) (hN : 1000000 ≤ N ∧ N ≤ 10000000) {x y : Int} (f1 : 20 ≤ x ∧ x ≤ 400) (f2 : 20 ≤ y ∧ y ≤ 400) {m' : Mem} (em : m' = up (up mu w 0 x) w 1 y) :
    Wo m' c h t p ∧ fwF x y = 0 ∧ 1000 * pshM m' c h c 0 + pshM m' c h c 1 = 1000 * mu w 0 + mu w 1 ∧ Wi (N + 20) (stlM (up (up (pshM m' c h) c 0 x) c 1 y) p c) c h t p b w := by
  have H := A.ly
  have O' := O
  obtain ⟨o1, o2, o3, o4, o5, o6⟩ := O'
  have off : ∀ (k : Nat) (i : Int), k ≠ w → m' k i = mu k i := fun k i hk => by rw [em, up_a _ _ _ _ hk, up_a _ _ _ _ hk]
  have R : R32 m' := by rw [em]; exact R32_up (R32_up A.cw.2 _ _ ⟨by omega, by omega⟩) _ _ ⟨by omega, by omega⟩
  have C := A.cw.off O (fun k i hk => off k i (by omega)) R
  have nx := C.nxt
  have ps : ∀ (k : Nat) (i : Int), k < h → pshM m' c h k i = mu k i := fun k i hk => by rw [pshM_off nx (by omega), off k i (by omega)]
  have W := C.wo ⟨by omega, by omega⟩
  obtain ⟨⟨s, past, tx, np, nt, C⟩, -⟩ := C
  obtain ⟨c1, c2, c3⟩ := C.win9 O R hN f1 f2
  have e0 : ∀ i : Int, stlM (up (up (pshM m' c h) c 0 x) c 1 y) p c c i = if i = 1 then y else if i = 0 then x else mu c i := fun i => by
    rw [stlM_x _ _ (by omega), up_e, up_e, ps c i (by omega)]
    by_cases a : i = 1
    · rw [if_pos ⟨rfl, a⟩, if_pos a]
    · rw [if_neg (by omega), if_neg a]
      by_cases b : i = 0
      · rw [if_pos ⟨rfl, b⟩, if_pos b]
      · rw [if_neg (by omega), if_neg b]
  have e1 : ∀ (k : Nat) (i : Int), c < k → k < h → stlM (up (up (pshM m' c h) c 0 x) c 1 y) p c k i = mu k i := fun k i h1 h2 => by
    rw [stlM_x _ _ (by omega), up_a _ _ _ _ (by omega), up_a _ _ _ _ (by omega), ps k i h2]
  refine ⟨W, if_pos ⟨f1.1, f1.2, f2⟩, ?_, ?_⟩
  · rw [ps _ _ (by omega), ps _ _ (by omega), A.hd.1, A.hd.2]
  · generalize stlM (up (up (pshM m' c h) c 0 x) c 1 y) p c = m3 at *
    have ew : ∀ (k : Nat) (i : Int), w ≤ k → k ≠ w → m3 k i = mu k i := fun k i h1 h2 => by rw [c3 k i h1, off k i h2]
    have e20 : m3 c 2 = mu c 2 := by rw [e0, if_neg (by omega), if_neg (by omega)]
    have ww : ∀ i : Int, m3 w i = if i = 1 then y else if i = 0 then x else mu w i := fun i => by
      rw [c3 w i (by omega), em, up_e, up_e]
      by_cases a : i = 1
      · rw [if_pos ⟨rfl, a⟩, if_pos a]
      · rw [if_neg (by omega), if_neg a]
        by_cases b : i = 0
        · rw [if_pos ⟨rfl, b⟩, if_pos b]
        · rw [if_neg (by omega), if_neg b]
    refine Wi.mk9 O ⟨c1, c2⟩ (Fr.rf m3 w) c2 (L' := lay mu (c + 2)) (P := mu c 2) (A.lr.hd9 fun a i h1 h2 h3 h4 => ?_) H e20 (lay_cg fun k i h1 h2 => e1 k i (by omega) (by omega)) ⟨?_, ?_⟩ (fun k k1 k2 => ?_)
    · by_cases z : a = w
      · subst z
        rw [ww, if_neg (by omega), if_neg (by omega)]
      · exact ew a i h1 z
    · rw [ww, e0, if_neg (by omega), if_pos rfl, if_neg (by omega), if_pos rfl]
    · rw [ww, e0, if_pos rfl, if_pos rfl]
    · rw [ew (w + 2) (4 * k) (by omega) (by omega), ew (w + 2) (4 * k + 1) (by omega) (by omega), e1 (c + 1) (2 * k) (by omega) (by omega), e1 (c + 1) (2 * k + 1) (by omega) (by omega)]
      exact A.ls k k1 k2
theorem lst_w (O : Od c h t p b q w) (A : Wi N mu c h t p b w) (hN : 1000000 ≤ N ∧ N ≤ 10000000) {a x y : Int} (f0 : 0 ≤ a ∧ a < mu w 2) (f1 : 1 ≤ x ∧ x ≤ 60) (f2 : 1 ≤ y ∧ y ≤ 60) {m' : Mem} (em : m' = up (up mu (w + 2) (4 * a) x) (w + 2) (4 * a + 1) y) :
    Wo m' c h t p ∧ slF m' c a x y = 0 ∧ 1000 * gK (pshM m' c h) (c + 1) 32 (2 * a + 0) + gK (pshM m' c h) (c + 1) 32 (2 * a + 1) = 1000 * mu (w + 2) (4 * a) + mu (w + 2) (4 * a + 1) ∧ Wi (N + 20) (stlM (clM (pshM m' c h) c a x y) p c) c h t p b w := by
  have H := A.ly
  have p5 := A.p5
  have np := A.lr.np
  have O' := O
  obtain ⟨o1, o2, o3, o4, o5, o6⟩ := O'
  have off : ∀ (k : Nat) (i : Int), k ≠ w + 2 → m' k i = mu k i := fun k i hk => by rw [em, up_a _ _ _ _ hk, up_a _ _ _ _ hk]
  have R : R32 m' := by rw [em]; exact R32_up (R32_up A.cw.2 _ _ ⟨by omega, by omega⟩) _ _ ⟨by omega, by omega⟩
  have C := A.cw.off O (fun k i hk => off k i (by omega)) R
  have nx := C.nxt
  have ps : ∀ (k : Nat) (i : Int), k < h → pshM m' c h k i = mu k i := fun k i hk => by rw [pshM_off nx (by omega), off k i (by omega)]
  have W := C.wo ⟨by omega, by omega⟩
  obtain ⟨⟨s, past, tx, np', nt, C⟩, -⟩ := C
  have e20' : m' c 2 = mu c 2 := off _ _ (by omega)
  obtain ⟨c1, c2, c3⟩ := C.lst9 O R hN (x := a) (y := x) (z := y) ⟨f0.1, by omega⟩ f1 f2
  have cl := clM_e (m := pshM m' c h) (c := c) (pp := a) (w := x) (v := y) ⟨by omega, by omega⟩ f1 f2
  have la := A.ls a f0.1 (by omega)
  refine ⟨W, ?_, ?_, ?_⟩
  · unfold slF pnF feF
    (repeat' split) <;> omega
  · rw [gK9 ⟨by omega, by omega⟩ (by omega), gK9 ⟨by omega, by omega⟩ (by omega), ps _ _ (by omega), ps _ _ (by omega), la.1, la.2, Int.add_zero]
  · rw [cl] at c1 c2 c3 ⊢
    have e0 : ∀ i : Int, stlM (up (up (pshM m' c h) (c + 1) (2 * a) x) (c + 1) (2 * a + 1) y) p c (c + 1) i = if i = 2 * a + 1 then y else if i = 2 * a then x else mu (c + 1) i := fun i => by
      rw [stlM_x _ _ (by omega), up_e, up_e, ps _ i (by omega)]
      by_cases z : i = 2 * a + 1
      · rw [if_pos ⟨rfl, z⟩, if_pos z]
      · rw [if_neg (by omega), if_neg z]
        by_cases b : i = 2 * a
        · rw [if_pos ⟨rfl, b⟩, if_pos b]
        · rw [if_neg (by omega), if_neg b]
    have e1 : ∀ (k : Nat) (i : Int), k ≠ c + 1 → k < h → stlM (up (up (pshM m' c h) (c + 1) (2 * a) x) (c + 1) (2 * a + 1) y) p c k i = mu k i := fun k i h1 h2 => by
      rw [stlM_x _ _ (by omega), up_a _ _ _ _ (by omega), up_a _ _ _ _ (by omega), ps k i h2]
    generalize stlM (up (up (pshM m' c h) (c + 1) (2 * a) x) (c + 1) (2 * a + 1) y) p c = m3 at *
    have ew : ∀ (k : Nat) (i : Int), w ≤ k → k ≠ w + 2 → m3 k i = mu k i := fun k i h1 h2 => by rw [c3 k i h1, off k i h2]
    have ww : ∀ i : Int, m3 (w + 2) i = if i = 4 * a + 1 then y else if i = 4 * a then x else mu (w + 2) i := fun i => by
      rw [c3 _ i (by omega), em, up_e, up_e]
      by_cases z : i = 4 * a + 1
      · rw [if_pos ⟨rfl, z⟩, if_pos z]
      · rw [if_neg (by omega), if_neg z]
        by_cases b : i = 4 * a
        · rw [if_pos ⟨rfl, b⟩, if_pos b]
        · rw [if_neg (by omega), if_neg b]
    refine Wi.mk9 O ⟨c1, c2⟩ (Fr.rf m3 w) c2 (L' := lay mu (c + 2)) (P := mu c 2) (A.lr.hd9 fun k i h1 h2 h3 h4 => ?_) H (e1 _ _ (by omega) (by omega)) (lay_cg fun k i h1 h2 => e1 k i (by omega) (by omega)) ⟨?_, ?_⟩ (fun k k1 k2 => ?_)
    · by_cases z : k = w + 2
      · subst z
        rw [ww, if_neg (by omega), if_neg (by omega)]
      · exact ew k i h1 z
    · rw [ew _ _ (by omega) (by omega), e1 _ _ (by omega) (by omega)]; exact A.hd.1
    · rw [ew _ _ (by omega) (by omega), e1 _ _ (by omega) (by omega)]; exact A.hd.2
    · have l := A.ls k k1 k2
      rw [ww, ww, e0, e0]
      by_cases z : k = a
      · subst z
        rw [if_neg (by omega), if_pos rfl, if_neg (by omega), if_pos rfl, if_pos rfl, if_pos rfl]
        exact ⟨rfl, rfl⟩
      · rw [if_neg (by omega), if_neg (by omega), if_neg (by omega), if_neg (by omega), if_neg (by omega), if_neg (by omega), if_neg (by omega), if_neg (by omega)]
        exact l
theorem add_w (O : Od c h t p b q w) (A : Wi N mu c h t p b w) (hN : 1000000 ≤ N ∧ N ≤ 10000000) {x y : Int} (f0 : mu w 2 ≤ 4) (f1 : 1 ≤ x ∧ x ≤ 60) (f2 : 1 ≤ y ∧ y ≤ 60) {m' : Mem} (em : m' = up (up (up (up mu (w + 2) (4 * mu w 2) x) (w + 2) (4 * mu w 2 + 1) y) (w + 2) (4 * mu w 2 + 2) (-1)) w 2 (mu w 2 + 1)) :
    Wo m' c h t p ∧ fnF m' c x y = 0 ∧ stlM (apM (pshM m' c h) c x y) p c c 2 - 1 = mu w 2 ∧ stlM (apM (pshM m' c h) c x y) p c w 2 = mu w 2 + 1 ∧ Wi (N + 20) (stlM (apM (pshM m' c h) c x y) p c) c h t p b w := by
  have H := A.ly
  have p5 := A.p5
  have np := A.lr.np
  have O' := O
  obtain ⟨o1, o2, o3, o4, o5, o6⟩ := O'
  have off : ∀ (k : Nat) (i : Int), k ≠ w + 2 → (k ≠ w ∨ i ≠ 2) → m' k i = mu k i := fun k i hk hi => by rw [em, up_e, if_neg (by omega), up_a _ _ _ _ hk, up_a _ _ _ _ hk, up_a _ _ _ _ hk]
  have R : R32 m' := by rw [em]; exact R32_up (R32_up (R32_up (R32_up A.cw.2 _ _ ⟨by omega, by omega⟩) _ _ ⟨by omega, by omega⟩) _ _ ⟨by omega, by omega⟩) _ _ ⟨by omega, by omega⟩
  have C := A.cw.off O (fun k i hk => off k i (by omega) (by omega)) R
  have nx := C.nxt
  have ps : ∀ (k : Nat) (i : Int), k < h → pshM m' c h k i = mu k i := fun k i hk => by rw [pshM_off nx (by omega), off k i (by omega) (by omega)]
  have W := C.wo ⟨by omega, by omega⟩
  obtain ⟨⟨s, past, tx, np', nt, C⟩, -⟩ := C
  have e20' : m' c 2 = mu c 2 := off _ _ (by omega) (by omega)
  obtain ⟨c1, c2, c3, ap⟩ := C.add9 O R hN (x := x) (y := y) (by omega) f1 f2
  rw [e20'] at ap
  rw [ap] at c1 c2 c3 ⊢
  have e0 : ∀ i : Int, stlM (up (up (up (pshM m' c h) (c + 1) (2 * mu c 2) x) (c + 1) (2 * mu c 2 + 1) y) c 2 (mu c 2 + 1)) p c (c + 1) i = if i = 2 * mu c 2 + 1 then y else if i = 2 * mu c 2 then x else mu (c + 1) i := fun i => by
    rw [stlM_x _ _ (by omega), up_e, if_neg (by omega), up_e, up_e, ps _ i (by omega)]
    by_cases z : i = 2 * mu c 2 + 1
    · rw [if_pos ⟨rfl, z⟩, if_pos z]
    · rw [if_neg (by omega), if_neg z]
      by_cases b : i = 2 * mu c 2
      · rw [if_pos ⟨rfl, b⟩, if_pos b]
      · rw [if_neg (by omega), if_neg b]
  have e2 : stlM (up (up (up (pshM m' c h) (c + 1) (2 * mu c 2) x) (c + 1) (2 * mu c 2 + 1) y) c 2 (mu c 2 + 1)) p c c 2 = mu c 2 + 1 := by
    rw [stlM_x _ _ (by omega), up_s]
  have e1 : ∀ (k : Nat) (i : Int), k ≠ c + 1 → (k ≠ c ∨ i ≠ 2) → k < h → stlM (up (up (up (pshM m' c h) (c + 1) (2 * mu c 2) x) (c + 1) (2 * mu c 2 + 1) y) c 2 (mu c 2 + 1)) p c k i = mu k i := fun k i h1 h3 h2 => by
    rw [stlM_x _ _ (by omega), up_e, if_neg (by omega), up_a _ _ _ _ (by omega), up_a _ _ _ _ (by omega), ps k i h2]
  generalize stlM (up (up (up (pshM m' c h) (c + 1) (2 * mu c 2) x) (c + 1) (2 * mu c 2 + 1) y) c 2 (mu c 2 + 1)) p c = m3 at *
  have ew : ∀ (k : Nat) (i : Int), w ≤ k → k ≠ w + 2 → (k ≠ w ∨ i ≠ 2) → m3 k i = mu k i := fun k i h1 h2 h3 => by rw [c3 k i h1, off k i h2 h3]
  have w2 : m3 w 2 = mu w 2 + 1 := by rw [c3 w 2 (by omega), em, up_s]
  have ww : ∀ i : Int, m3 (w + 2) i = if i = 4 * mu w 2 + 2 then -1 else if i = 4 * mu w 2 + 1 then y else if i = 4 * mu w 2 then x else mu (w + 2) i := fun i => by
    rw [c3 _ i (by omega), em, up_e, if_neg (by omega), up_e, up_e, up_e]
    by_cases v : i = 4 * mu w 2 + 2
    · rw [if_pos ⟨rfl, v⟩, if_pos v]
    · rw [if_neg (by omega), if_neg v]
      by_cases z : i = 4 * mu w 2 + 1
      · rw [if_pos ⟨rfl, z⟩, if_pos z]
      · rw [if_neg (by omega), if_neg z]
        by_cases b : i = 4 * mu w 2
        · rw [if_pos ⟨rfl, b⟩, if_pos b]
        · rw [if_neg (by omega), if_neg b]
  have B := A.lr
  have lP : lay mu (c + 2) 0 (mu c 2) = -1 := H.cl (mu c 2) (by omega) (by omega)
  refine ⟨W, ?_, by omega, w2, ?_⟩
  · unfold fnF feF
    (repeat' split) <;> omega
  · refine Wi.mk9 O ⟨c1, c2⟩ (Fr.rf m3 w) c2 (L' := lay mu (c + 2)) (P := mu c 2 + 1) ?_ (Ly.mk H.wf H.fu (fun k k1 k2 => H.cl k (by omega) k2) ⟨by omega, by omega⟩) e2 (lay_cg fun k i h1 h2 => e1 k i (by omega) (by omega) (by omega)) ⟨?_, ?_⟩ (fun k k1 k2 => ?_)
    · refine Lr.mk ?_ (by omega) (fun k h1 h2 => ?_) (fun k h1 h2 h3 => ?_) (fun g h1 h2 h3 => ?_) ?_ (fun t h1 h2 h3 => ?_) (fun k h1 h2 => ?_)
      · obtain ⟨o, c', S⟩ := B.sg
        rw [ew w 3 (by omega) (by omega) (by omega), show m3 (w + 1) = mu (w + 1) from funext fun i => ew _ i (by omega) (by omega) (by omega)]
        exact ⟨o, c', S⟩
      · rw [ww]
        by_cases z : k = mu c 2
        · rw [if_pos (by omega), z, if_pos lP]
        · rw [if_neg (by omega), if_neg (by omega), if_neg (by omega)]
          exact B.grp k h1 (by omega)
      · by_cases z : k = mu c 2
        · rw [z] at h3; exact absurd lP h3
        · rw [ww, if_neg (by omega), if_neg (by omega), if_neg (by omega)]
          exact B.pla k h1 (by omega) h3
      · rw [ww, if_neg (by omega), if_neg (by omega), if_neg (by omega)]
        exact B.act g h1 h2 h3
      · rw [ew w 4 (by omega) (by omega) (by omega)]; exact B.flo
      · rw [ew _ _ (by omega) (by omega) (by omega)]; exact B.fli t h1 h2 h3
      · by_cases z : k = mu c 2
        · rw [z, lP]; omega
        · exact B.low k h1 (by omega)
    · rw [ew _ _ (by omega) (by omega) (by omega), e1 _ _ (by omega) (by omega) (by omega)]; exact A.hd.1
    · rw [ew _ _ (by omega) (by omega) (by omega), e1 _ _ (by omega) (by omega) (by omega)]; exact A.hd.2
    · rw [ww, ww, e0, e0, np]
      by_cases z : k = mu c 2
      · subst z
        rw [if_neg (by omega), if_neg (by omega), if_pos rfl, if_neg (by omega), if_pos rfl, if_neg (by omega), if_pos rfl, if_pos rfl]
        exact ⟨rfl, rfl⟩
      · rw [if_neg (by omega), if_neg (by omega), if_neg (by omega), if_neg (by omega), if_neg (by omega), if_neg (by omega), if_neg (by omega), if_neg (by omega), if_neg (by omega), if_neg (by omega)]
        exact A.ls k k1 (by omega)
end T1
