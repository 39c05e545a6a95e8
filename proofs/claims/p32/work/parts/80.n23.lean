/-! THE CLASS'S SIDE ALONE -/
section CW
variable {N M : Int} {mu : Mem} {c h t p b q w : Nat} {s past tx : Int → Int} {np nt : Int}
theorem CR.psh9 (O : Od c h t p b q w) (A : CR N mu c h t p b s past tx np nt) (R : R32 mu) : RS N (pshM mu c h) c s ∧ Hy N (pshM mu c h) h (pushP past s np) (min (np + 1) 4) ∧ TxR (pshM mu c h) t tx nt ∧
    (0 ≤ pshM mu c h t 5 ∧ pshM mu c h t 5 ≤ 8) ∧ BA N (rowsC c h b) (pshM mu c h) ∧ R32 (pshM mu c h) ∧ ∀ (x : Nat) (i : Int), x < h ∨ h + 198 ≤ x → pshM mu c h x i = mu x i := by
  obtain ⟨o1, o2, o3, o4, o5, o6⟩ := O
  have n := A.hy.nxt
  have cn := A.hy.cnt
  have off : ∀ (x : Nat) (i : Int), x < h ∨ h + 198 ≤ x → pshM mu c h x i = mu x i := fun x i hx => pshM_off n hx i
  refine ⟨A.st.push n o1, A.hy.push A.st o1, A.tt.off fun x i hx => off x i (by omega), ?_, A.ba.push n o1 (by omega), R32_pshM R n (by omega), off⟩
  rw [off _ _ (by omega)]; exact A.kd
theorem CR.cls9 {L' T' : Mem} (O : Od c h t p b q w) (A : CR N mu c h t p b s past tx np nt) (R : R32 mu) (hN : 0 ≤ N ∧ N ≤ M ∧ M ≤ 2147483647) (hL : LR M L' T' (mu c 2)) (hB : Bd M L') :
    CR M (stlM (putL (pshM mu c h) (c + 2) L') p c) c h t p b (ptS s T') (pushP past s np) tx (min (np + 1) 4) nt ∧ R32 (stlM (putL (pshM mu c h) (c + 2) L') p c) ∧
      ∀ (x : Nat) (i : Int), w ≤ x → stlM (putL (pshM mu c h) (c + 2) L') p c x i = mu x i := by
  obtain ⟨p1, p2, p3, p4, p5, p6, p7⟩ := A.psh9 O R
  have e2 : pshM mu c h c 2 = mu c 2 := p7 _ _ (by have := O.1; omega)
  have O' := O
  obtain ⟨o1, o2, o3, o4, o5, o6⟩ := O'
  have st : RS M (putL (pshM mu c h) (c + 2) L') c (ptS s T') := by
    refine p1.lay hN.2.1 ?_ fun i h1 h2 h3 => ptS_x _ _ h3
    rw [e2]
    exact hL.cT (trS_ptS _ _) (hL.tb.pt _)
  have := CR.settle O st ((p2.mono hN.2.1).off (fun x i h1 h2 => putL_x (by omega) i) (fun _ _ _ => rfl)) (p3.off fun x i hx => putL_x (by omega) i) (by rw [putL_x (by omega)]; exact p4) ((p5.mono hN.2.1).putL hB) (R32_putL p6 (hB.r32 hN.2.2))
  refine ⟨this.1, this.2, fun x i hx => ?_⟩
  rw [stlM_x _ _ (by omega), putL_x (by omega), p7 _ _ (by omega)]
theorem CR.cls29 {m : Mem} {s' : Int → Int} (O : Od c h t p b q w) (A : CR N mu c h t p b s past tx np nt) (R0 : R32 mu) (hN : N ≤ M) (st : RS M m c s') (eo : ∀ (x : Nat) (i : Int), x < c ∨ c + 49 ≤ x → m x i = pshM mu c h x i) (B : BA M (rowsC c h b) m) (R : R32 m) :
    CR M (stlM m p c) c h t p b s' (pushP past s np) tx (min (np + 1) 4) nt ∧ R32 (stlM m p c) ∧ ∀ (x : Nat) (i : Int), w ≤ x → stlM m p c x i = mu x i := by
  obtain ⟨p1, p2, p3, p4, p5, p6, p7⟩ := A.psh9 O R0
  have O' := O
  obtain ⟨o1, o2, o3, o4, o5, o6⟩ := O'
  have := CR.settle O st ((p2.mono hN).off (fun x i h1 h2 => eo x i (by omega)) (fun _ _ _ => rfl)) (p3.off fun x i hx => eo x i (by omega)) (by rw [eo _ _ (by omega)]; exact p4) B R
  refine ⟨this.1, this.2, fun x i hx => ?_⟩
  rw [stlM_x _ _ (by omega), eo _ _ (by omega), p7 _ _ (by omega)]
theorem CR.cls39 {m : Mem} {s' : Int → Int} (O : Od c h t p b q w) (A : CR N mu c h t p b s past tx np nt) (R0 : R32 mu) (hN : N ≤ M) (st : RS M m c s') (eo : ∀ (x : Nat) (i : Int), x < c ∨ c + 49 ≤ x → m x i = pshM mu c h x i) (B : BA M (rowsC c h b) m)
    (e0 : m c 0 = mu c 0 ∧ m c 1 = mu c 1) (e1 : ∀ i : Int, m (c + 1) i = mu (c + 1) i) (e4 : E4 (lay mu (c + 2)) (lay m (c + 2))) :
    CR M m c h t p b s' (pushP past s np) tx (min (np + 1) 4) nt ∧ ∀ (x : Nat) (i : Int), w ≤ x → m x i = mu x i := by
  obtain ⟨p1, p2, p3, p4, p5, p6, p7⟩ := A.psh9 O R0
  have O' := O
  obtain ⟨o1, o2, o3, o4, o5, o6⟩ := O'
  obtain ⟨rk, k1, k2⟩ := A.pln
  refine ⟨CR.mk st ((p2.mono hN).off (fun x i h1 h2 => eo x i (by omega)) (fun _ _ _ => rfl)) (p3.off fun x i hx => eo x i (by omega)) (by rw [eo _ _ (by omega)]; exact p4) ⟨rk, k1.c (e4 0 (by omega)), ?_⟩ B, fun x i hx => by rw [eo _ _ (by omega), p7 _ _ (by omega)]⟩
  rw [show m (c + 1) = mu (c + 1) from funext e1, e0.1, e0.2]
  refine (k2.e4 e4).rows fun k hk => ?_
  funext i
  show (if _ then _ else _) = (if _ then _ else _)
  rw [if_pos hk, if_pos hk, eo _ _ (by omega), p7 _ _ (by omega)]
theorem CR.win9 (O : Od c h t p b q w) (A : CR N mu c h t p b s past tx np nt) (R : R32 mu) (hN : 1000000 ≤ N ∧ N ≤ 10000000) {x y : Int} (f1 : 20 ≤ x ∧ x ≤ 400) (f2 : 20 ≤ y ∧ y ≤ 400) :
    (∃ (s past tx : Int → Int) (np nt : Int), CR (N + 20) (stlM (up (up (pshM mu c h) c 0 x) c 1 y) p c) c h t p b s past tx np nt) ∧ R32 (stlM (up (up (pshM mu c h) c 0 x) c 1 y) p c) ∧ ∀ (k : Nat) (i : Int), w ≤ k → stlM (up (up (pshM mu c h) c 0 x) c 1 y) p c k i = mu k i := by
  obtain ⟨p1, p2, p3, p4, p5, p6, p7⟩ := A.psh9 O R
  have o1 := O.1
  have st : RS N (up (up (pshM mu c h) c 0 x) c 1 y) c (fun i => if i = 1 then y else if i = 0 then x else s i) := by
    have off : ∀ (k : Nat) (i : Int), k ≠ c → up (up (pshM mu c h) c 0 x) c 1 y k i = pshM mu c h k i := fun k i hk => by rw [up_a _ _ _ _ hk, up_a _ _ _ _ hk]
    have c2 : up (up (pshM mu c h) c 0 x) c 1 y c 2 = pshM mu c h c 2 := by rw [up_e, if_neg (by omega), up_e, if_neg (by omega)]
    have eL : ∀ b', b' + 1 > c → Jvm.Pilot.CDockTreeLaw_law_r5321_3fbd41.lay (up (up (pshM mu c h) c 0 x) c 1 y) b' = Jvm.Pilot.CDockTreeLaw_law_r5321_3fbd41.lay (pshM mu c h) b' := fun b' hb => by
      funext k i
      show (if _ then _ else _) = (if _ then _ else _)
      split
      · exact off _ _ (by omega)
      · rfl
    obtain ⟨a1, a2, a3, a4, a5, a6, a7, a8⟩ := p1
    refine RS.mk ?_ ?_ ?_ ?_ ?_ ?_ ?_ ?_
    · rw [up_e, if_neg (by omega), up_e, if_pos ⟨rfl, rfl⟩]
      exact ⟨by rw [if_neg (by omega), if_pos rfl], by omega, by omega⟩
    · rw [up_e, if_pos ⟨rfl, rfl⟩]
      exact ⟨by rw [if_pos rfl], by omega, by omega⟩
    · rw [c2]; exact ⟨by rw [if_neg (by omega), if_neg (by omega)]; exact a3.1, a3.2⟩
    · intro i h1 h2
      rw [off _ _ (by omega)]
      have := a4 i h1 h2
      exact ⟨by rw [if_neg (by omega), if_neg (by omega)]; exact this.1, this.2⟩
    · intro k ax h1 h2 ha
      rw [c2] at h2
      rw [off _ _ (by omega)]; exact a5 k ax h1 h2 ha
    · rw [c2, eL _ (by omega)]
      exact a6.c (fun _ _ _ _ _ => rfl) (fun i h1 h2 => by show (if _ then _ else _) = _; rw [if_neg (by omega), if_neg (by omega)]) a3.2.1
    · intro j hj
      rw [off _ _ (by omega)]
      have := a7 j hj
      exact ⟨by rw [if_neg (by omega), if_neg (by omega)]; exact this.1, this.2⟩
    · intro j hj hh
      rw [off _ _ (by omega)] at hh
      rw [c2, eL _ (by omega)]
      exact (a8 j hj hh).c (fun _ _ _ _ _ => rfl) (fun i h1 h2 => by show (if _ then _ else _) = _; rw [if_neg (by omega), if_neg (by omega)]) a3.2.1
  obtain ⟨c1, c2, c3⟩ := A.cls29 (M := N + 20) O R (by omega) (st.mono (by omega)) (fun k i hk => by rw [up_a _ _ _ _ (by omega), up_a _ _ _ _ (by omega)]) (((p5.up c 0 (v := x) (fun _ => by omega)).up c 1 (v := y) (fun _ => by omega)).mono (by omega)) (R32_up (R32_up p6 _ _ (by omega)) _ _ (by omega))
  exact ⟨⟨_, _, _, _, _, c1⟩, c2, c3⟩
theorem CR.lst9 (O : Od c h t p b q w) (A : CR N mu c h t p b s past tx np nt) (R : R32 mu) (hN : 1000000 ≤ N ∧ N ≤ 10000000) {x y z : Int} (f1 : 0 ≤ x ∧ x < mu c 2) (f2 : 1 ≤ y ∧ y ≤ 60) (f3 : 1 ≤ z ∧ z ≤ 60) :
    (∃ (s past tx : Int → Int) (np nt : Int), CR (N + 20) (stlM (clM (pshM mu c h) c x y z) p c) c h t p b s past tx np nt) ∧ R32 (stlM (clM (pshM mu c h) c x y z) p c) ∧ ∀ (k : Nat) (i : Int), w ≤ k → stlM (clM (pshM mu c h) c x y z) p c k i = mu k i := by
  obtain ⟨p1, p2, p3, p4, p5, p6, p7⟩ := A.psh9 O R
  have eb : s 2 = mu c 2 := A.st.pan.1.symm
  have P := A.st.pan.2
  have o1 := O.1
  have e2 : pshM mu c h c 2 = mu c 2 := p7 _ _ (by omega)
  have cl := clM_e (m := pshM mu c h) (c := c) (pp := x) (w := y) (v := z) (by omega) f2 f3
  have st : RS (N + 20) (clM (pshM mu c h) c x y z) c (fun i => if i = 3 + 2 * x + 1 then z else if i = 3 + 2 * x then y else s i) := by
    rw [cl]
    have sm : ∀ i : Int, i < 3 ∨ 35 ≤ i → (fun i => if i = 3 + 2 * x + 1 then z else if i = 3 + 2 * x then y else s i) i = s i := fun i hi => by
      show (if _ then _ else _) = _
      rw [if_neg (by omega), if_neg (by omega)]
    refine p1.least (P := mu c 2) (pp := x) (w := y) (v := z) (by omega) f1 (by omega) f2 f3 ⟨by rw [up_a _ _ _ _ (by omega), up_a _ _ _ _ (by omega)], by rw [up_a _ _ _ _ (by omega), up_a _ _ _ _ (by omega)], by rw [up_a _ _ _ _ (by omega), up_a _ _ _ _ (by omega), e2]⟩ (fun i h1 h2 => ?_) (fun k i h1 h2 => ?_) ?_ (fun i h1 h2 => ?_) (fun i h1 h2 => sm i (by omega)) ((p1.lyt.mono (by omega) (Int.le_refl _)).c (fun _ _ _ _ _ => rfl) (fun i h1 h2 => sm _ (by omega)) p1.pan.2.1) (fun i h1 h2 => sm i (by omega))
    · rw [up_e, up_e]
      by_cases a : i = 2 * x + 1
      · rw [if_pos ⟨rfl, a⟩, if_pos a]
      · rw [if_neg (by omega), if_neg a]
        by_cases b : i = 2 * x
        · rw [if_pos ⟨rfl, b⟩, if_pos b]
        · rw [if_neg (by omega), if_neg b]
    · rw [up_a _ _ _ _ (by omega), up_a _ _ _ _ (by omega)]
    · exact (sm 2 (by omega)).trans eb
    · show (if _ then _ else _) = _
      by_cases a : i = 2 * x + 1
      · rw [if_pos (by omega), if_pos a]
      · rw [if_neg (by omega), if_neg a]
        by_cases b : i = 2 * x
        · rw [if_pos (by omega), if_pos b]
        · rw [if_neg (by omega), if_neg b]
  obtain ⟨c1, c2, c3⟩ := A.cls29 (M := N + 20) O R (by omega) st (fun k i hk => by rw [cl, up_a _ _ _ _ (by omega), up_a _ _ _ _ (by omega)]) (by rw [cl]; exact ((p5.up _ _ (v := y) (fun _ => by omega)).up _ _ (v := z) (fun _ => by omega)).mono (by omega)) (by rw [cl]; exact R32_up (R32_up p6 _ _ (by omega)) _ _ (by omega))
  exact ⟨⟨_, _, _, _, _, c1⟩, c2, c3⟩
theorem CR.add9 (O : Od c h t p b q w) (A : CR N mu c h t p b s past tx np nt) (R : R32 mu) (hN : 1000000 ≤ N ∧ N ≤ 10000000) {x y : Int} (f1 : mu c 2 < 16) (f2 : 1 ≤ x ∧ x ≤ 60) (f3 : 1 ≤ y ∧ y ≤ 60) :
    (∃ (s past tx : Int → Int) (np nt : Int), CR (N + 20) (stlM (apM (pshM mu c h) c x y) p c) c h t p b s past tx np nt) ∧ R32 (stlM (apM (pshM mu c h) c x y) p c) ∧ (∀ (k : Nat) (i : Int), w ≤ k → stlM (apM (pshM mu c h) c x y) p c k i = mu k i) ∧
      apM (pshM mu c h) c x y = up (up (up (pshM mu c h) (c + 1) (2 * mu c 2) x) (c + 1) (2 * mu c 2 + 1) y) c 2 (mu c 2 + 1) := by
  obtain ⟨p1, p2, p3, p4, p5, p6, p7⟩ := A.psh9 O R
  have eb : s 2 = mu c 2 := A.st.pan.1.symm
  have P := A.st.pan.2
  have Lr9 := A.st.lyt
  have o1 := O.1
  have e2 : pshM mu c h c 2 = mu c 2 := p7 _ _ (by omega)
  have cl := clM_e (m := pshM mu c h) (c := c) (pp := mu c 2) (w := x) (v := y) (by omega) f2 f3
  have ap : apM (pshM mu c h) c x y = up (up (up (pshM mu c h) (c + 1) (2 * mu c 2) x) (c + 1) (2 * mu c 2 + 1) y) c 2 (mu c 2 + 1) := by
    unfold apM
    rw [e2, cl, up_a _ _ _ _ (by omega), up_a _ _ _ _ (by omega), e2, wr_id (by omega)]
  generalize hT : up (up (trS s 35) 9 (mu c 2) (-1)) 10 (mu c 2) 0 = T'
  have l1 := (Lr9.room (by omega) ⟨P.1, f1⟩).mono (show N ≤ N + 20 by omega) (Int.le_refl _)
  rw [hT] at l1
  have sm : ∀ i : Int, i < 2 ∨ 35 ≤ i → (fun i => if i = 2 then mu c 2 + 1 else if i = 3 + 2 * mu c 2 + 1 then y else if i = 3 + 2 * mu c 2 then x else s i) i = s i := fun i hi => by
    show (if _ then _ else _) = _
    rw [if_neg (by omega), if_neg (by omega), if_neg (by omega)]
  have st : RS (N + 20) (up (up (up (pshM mu c h) (c + 1) (2 * mu c 2) x) (c + 1) (2 * mu c 2 + 1) y) c 2 (mu c 2 + 1)) c (ptS (fun i => if i = 2 then mu c 2 + 1 else if i = 3 + 2 * mu c 2 + 1 then y else if i = 3 + 2 * mu c 2 then x else s i) T') := by
    refine p1.least (P := mu c 2 + 1) (pp := mu c 2) (w := x) (v := y) (by omega) (by omega) (by omega) f2 f3 ⟨by rw [up_e, if_neg (by omega), up_a _ _ _ _ (by omega), up_a _ _ _ _ (by omega)], by rw [up_e, if_neg (by omega), up_a _ _ _ _ (by omega), up_a _ _ _ _ (by omega)], by rw [up_e, if_pos ⟨rfl, rfl⟩]⟩ (fun i h1 h2 => ?_) (fun k i h1 h2 => ?_) ?_ (fun i h1 h2 => ?_) (fun i h1 h2 => ?_) ?_ (fun i h1 h2 => ?_)
    · rw [up_a _ _ _ _ (by omega), up_e, up_e]
      by_cases a : i = 2 * mu c 2 + 1
      · rw [if_pos ⟨rfl, a⟩, if_pos a]
      · rw [if_neg (by omega), if_neg a]
        by_cases b : i = 2 * mu c 2
        · rw [if_pos ⟨rfl, b⟩, if_pos b]
        · rw [if_neg (by omega), if_neg b]
    · rw [up_a _ _ _ _ (by omega), up_a _ _ _ _ (by omega), up_a _ _ _ _ (by omega)]
    · rw [ptS_x _ _ (by omega)]
      exact if_pos rfl
    · rw [ptS_x _ _ (by omega)]
      show (if _ then _ else _) = _
      rw [if_neg (by omega)]
      by_cases a : i = 2 * mu c 2 + 1
      · rw [if_pos (by omega), if_pos a]
      · rw [if_neg (by omega), if_neg a]
        by_cases b : i = 2 * mu c 2
        · rw [if_pos (by omega), if_pos b]
        · rw [if_neg (by omega), if_neg b]
    · rw [ptS_x _ _ (by omega)]; exact sm i (by omega)
    · rw [lay_pshM A.hy.nxt o1, e2]
      exact l1.cT (trS_ptS _ _) (l1.tb.pt _)
    · rw [ptS_x _ _ (by omega)]; exact sm i (by omega)
  obtain ⟨c1, c2, c3⟩ := A.cls29 (M := N + 20) O R (by omega) st (fun k i hk => by rw [up_a _ _ _ _ (by omega), up_a _ _ _ _ (by omega), up_a _ _ _ _ (by omega)]) ((((p5.up _ _ (v := x) (fun _ => by omega)).up _ _ (v := y) (fun _ => by omega)).up _ _ (v := mu c 2 + 1) (fun _ => by omega)).mono (by omega)) (R32_up (R32_up (R32_up p6 _ _ (by omega)) _ _ (by omega)) _ _ (by omega))
  rw [ap]
  exact ⟨⟨_, _, _, _, _, c1⟩, c2, c3, rfl⟩
end CW
