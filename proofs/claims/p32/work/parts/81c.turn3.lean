/-! THE LAW OF p32: a turn that raises, closes, moves, weighs or wakes -/
section TC
variable {X : Cx} {S : Sh} {n : Nat} {mu : Mem} {la : Lam} {c h t p b q w o : Nat} {z : Int32} {ww x y was N : Int}
theorem t_10 (C : Ok X cL_acts wsL_acts RL (some .boolean) 9 21) (E : En X 1 6 (Pw S la (N + 20) c h t p b w)) (hcl : (xR X).cells = 1) (hsl : (xR X).slots = 6) (K : Tc X S mu N o c h t p b q w) (hx : 0 ≤ x ∧ x < mu w 2) (ew : was = jX mu w x) (hw : 0 ≤ ww ∧ ww < 100000) :
    V X 727 [some (.ref o), some (.ref w), some (.ref (w + 1)), some (.ref (w + 2)), some (.ref (w + 3)), some (.int z), some (.int (I32 ww)), some (.int (I32 x)), some (.int (I32 y)), some (.int (I32 was)), none, none, none, none, none, none, none, none, none, none, none] [] S n mu la 0 0 := by
  obtain ⟨gn, gx, l9, D, O, hL, A, hN⟩ := K
  have p5 := A.p5
  have np := A.lr.np
  have H := A.ly
  have m13 := A.lr.m13 H
  have W0 := A.cw.wo (show 0 ≤ N ∧ N ≤ 16000000 from ⟨by omega, by omega⟩)
  have px : pnF mu c x = 1 := if_pos ⟨hx.1, by omega⟩
  have bx : 0 ≤ jX mu w x ∧ jX mu w x ≤ 2 := by unfold jX; (repeat' split) <;> omega
  obtain ⟨d1, d2⟩ := raise_w O A hN hx
  by_cases q9 : jX mu w x < 2
  · have xx := x_raise (n := n) (la := la) (S := S) C.gp gx l9 D W0 (x := x) ⟨by omega, by omega⟩ (Or.inr (Or.inr (d1 q9)))
    rw [d1 q9] at xx
    exact a_10 C E hcl hsl hL A.cw.2 ⟨hx.1, by omega⟩ (by omega) (m3 := mu) (t := 0) (fun _ => ⟨L_raises_x3 C.gp gn D.1 xx, fun n1 => ⟨rfl, rfl, rfl, Wi.mono20 A⟩⟩) (fun q => absurd q9 (by omega))
  · obtain ⟨t9, t1, t2, t3, d3⟩ := d2 q9
    obtain ⟨W, f, e, W3⟩ := d3 _ rfl
    have k := L_raises_o (l := xL X) (n := n) (la := la) C.gp D.1 (fc := 6) (by omega) (k_raise C.gp D W (x := x) ⟨by omega, by omega⟩ f)
    rw [e] at k
    exact a_10 C E hcl hsl hL A.cw.2 ⟨hx.1, by omega⟩ (by omega) (t := t9) (fun q => absurd q (by omega)) (fun _ => ⟨t1, t2, t3, k, fun n1 => ⟨rfl, rfl, rfl, W3⟩⟩)
theorem t_11 (C : Ok X cL_acts wsL_acts RL (some .boolean) 9 21) (E : En X 1 6 (Pw S la (N + 20) c h t p b w)) (hcl : (xR X).cells = 1) (hsl : (xR X).slots = 6) (K : Tc X S mu N o c h t p b q w) (hx : 0 ≤ x ∧ x < mu w 2) (ew : was = jX mu w x) (hw : 0 ≤ ww ∧ ww < 100000) :
    V X 840 [some (.ref o), some (.ref w), some (.ref (w + 1)), some (.ref (w + 2)), some (.ref (w + 3)), some (.int z), some (.int (I32 ww)), some (.int (I32 x)), some (.int (I32 y)), some (.int (I32 was)), none, none, none, none, none, none, none, none, none, none, none] [] S n mu la 0 0 := by
  obtain ⟨gn, gx, l9, D, O, hL, A, hN⟩ := K
  have p5 := A.p5
  have np := A.lr.np
  have H := A.ly
  have m13 := A.lr.m13 H
  have W0 := A.cw.wo (show 0 ≤ N ∧ N ≤ 16000000 from ⟨by omega, by omega⟩)
  have px : pnF mu c x = 1 := if_pos ⟨hx.1, by omega⟩
  have bx : 0 ≤ jX mu w x ∧ jX mu w x ≤ 2 := by unfold jX; (repeat' split) <;> omega
  obtain ⟨m1, hK, W, f, e, W3⟩ := close_w O A hN hx
  have k := L_closesOf_o (l := xL X) (n := n) (la := la) C.gp D.1 (fc := 6) (by omega) (k_close C.gp D W (x := x) ⟨by omega, by omega⟩ f)
  rw [e, ← ew] at k
  exact a_11 C E hcl hsl hL A.cw.2 hx (by omega) ⟨m13.1, by omega⟩ hw (by omega) hK k (fun n1 => ⟨rfl, rfl, rfl, W3⟩)
theorem t_12 (C : Ok X cL_acts wsL_acts RL (some .boolean) 9 21) (E : En X 1 6 (Pw S la (N + 20) c h t p b w)) (hcl : (xR X).cells = 1) (hsl : (xR X).slots = 6) (K : Tc X S mu N o c h t p b q w) (hx : 0 ≤ x ∧ x < mu w 2) (ew : was = jX mu w x) (hw : 0 ≤ ww ∧ ww < 100000) :
    V X 896 [some (.ref o), some (.ref w), some (.ref (w + 1)), some (.ref (w + 2)), some (.ref (w + 3)), some (.int z), some (.int (I32 ww)), some (.int (I32 x)), some (.int (I32 y)), some (.int (I32 was)), none, none, none, none, none, none, none, none, none, none, none] [] S n mu la 0 0 := by
  obtain ⟨gn, gx, l9, D, O, hL, A, hN⟩ := K
  have p5 := A.p5
  have np := A.lr.np
  have H := A.ly
  have m13 := A.lr.m13 H
  have W0 := A.cw.wo (show 0 ≤ N ∧ N ≤ 16000000 from ⟨by omega, by omega⟩)
  have px : pnF mu c x = 1 := if_pos ⟨hx.1, by omega⟩
  have bx : 0 ≤ jX mu w x ∧ jX mu w x ≤ 2 := by unfold jX; (repeat' split) <;> omega
  obtain ⟨d0, d1, d2⟩ := move_w O A hN hx (y := ww / 25 % 4) ⟨by omega, by omega⟩
  rw [← ew] at d0 d1 d2
  by_cases q9 : was = 0 ∨ jT mu w (mu (w + 2) (4 * x + 2)) ≤ ww / 25 % 4
  · have f := d1 q9
    by_cases z0 : was = 0
    · rw [if_pos z0] at f
      have xx := x_moveTab (n := n) (la := la) (S := S) C.gp gx l9 D W0 (x := x) (y := ww / 25 % 4) ⟨by omega, by omega⟩ ⟨by omega, by omega⟩ (Or.inr (Or.inr f))
      rw [f] at xx
      have k := L_moves_x3 C.gp gn D.1 xx
      exact a_12 C E hcl hsl hL A.cw.2 hx (by omega) hw (by omega) rfl (m3 := mu) d0 (fun _ => ⟨by rw [if_pos z0]; exact k, fun n1 => ⟨rfl, rfl, rfl, Wi.mono20 A⟩⟩) (fun q' => absurd q9 q')
    · rw [if_neg z0] at f
      have xx := x_moveTab (n := n) (la := la) (S := S) C.gp gx l9 D W0 (x := x) (y := ww / 25 % 4) ⟨by omega, by omega⟩ ⟨by omega, by omega⟩ (Or.inr (Or.inl f))
      rw [f] at xx
      have k := L_moves_x2 C.gp gn D.1 xx
      exact a_12 C E hcl hsl hL A.cw.2 hx (by omega) hw (by omega) rfl (m3 := mu) d0 (fun _ => ⟨by rw [if_neg z0]; exact k, fun n1 => ⟨rfl, rfl, rfl, Wi.mono20 A⟩⟩) (fun q' => absurd q9 q')
  · obtain ⟨d3, d4⟩ := d2 q9
    obtain ⟨W, f, e, W3⟩ := d4 _ rfl
    have k := L_moves_o (l := xL X) (n := n) (la := la) C.gp D.1 (fc := 6) (by omega) (k_moveTab C.gp D W (x := x) (y := ww / 25 % 4) ⟨by omega, by omega⟩ ⟨by omega, by omega⟩ f)
    rw [e] at k
    exact a_12 C E hcl hsl hL A.cw.2 hx (by omega) hw (by omega) rfl d0 (fun q' => absurd q' q9) (fun _ => ⟨d3, k, fun n1 => ⟨rfl, rfl, rfl, W3⟩⟩)
theorem t_13 (C : Ok X cL_acts wsL_acts RL (some .boolean) 9 21) (E : En X 1 6 (Pw S la (N + 20) c h t p b w)) (hcl : (xR X).cells = 1) (hsl : (xR X).slots = 6) (K : Tc X S mu N o c h t p b q w) (hx : 0 ≤ x ∧ x < mu w 2) (hw : 0 ≤ ww ∧ ww < 100000) :
    V X 1114 [some (.ref o), some (.ref w), some (.ref (w + 1)), some (.ref (w + 2)), some (.ref (w + 3)), some (.int z), some (.int (I32 ww)), some (.int (I32 x)), some (.int (I32 y)), some (.int (I32 was)), none, none, none, none, none, none, none, none, none, none, none] [] S n mu la 0 0 := by
  obtain ⟨gn, gx, l9, D, O, hL, A, hN⟩ := K
  have p5 := A.p5
  have np := A.lr.np
  have H := A.ly
  have m13 := A.lr.m13 H
  have W0 := A.cw.wo (show 0 ≤ N ∧ N ≤ 16000000 from ⟨by omega, by omega⟩)
  have px : pnF mu c x = 1 := if_pos ⟨hx.1, by omega⟩
  obtain ⟨d1, d2⟩ := weigh_w O A hN hx rfl
  generalize ei : jS mu w (if mu (w + 2) (4 * x + 2) < 0 then 9 else mu (w + 2) (4 * x + 2)) = i at *
  by_cases q9 : i < 1
  · have f := d1 q9
    have xx := x_setShare (n := n) (la := la) (S := S) C.gp gx l9 D W0 (x := x) (y := 5) ⟨by omega, by omega⟩ ⟨by omega, by omega⟩ (Or.inr (Or.inr f))
    rw [f] at xx
    exact a_13 C E hcl hsl hL A.cw.2 ⟨hx.1, by omega⟩ ⟨m13.1, by omega⟩ hw ei (m3 := fun _ => mu) (fun _ => ⟨L_weighs_x3 C.gp gn D.1 xx, fun n1 => ⟨rfl, rfl, rfl, Wi.mono20 A⟩⟩) (fun q' => absurd q9 q')
  · have d2 := d2 q9
    refine a_13 C E hcl hsl hL A.cw.2 ⟨hx.1, by omega⟩ ⟨m13.1, by omega⟩ hw ei (m3 := fun v => stlM (putL (pshM (up mu (w + 1) (3 * i + 1) v) c h) (c + 2) (sL (lay (pshM (up mu (w + 1) (3 * i + 1) v) c h) (c + 2)) 3 (gL (lay (pshM (up mu (w + 1) (3 * i + 1) v) c h) (c + 2)) 0 x) v)) p c) (fun q' => absurd q' q9) (fun _ v hv => ?_)
    obtain ⟨W, f, e, W3⟩ := d2 v hv _ rfl
    have k := L_weighs_o (l := xL X) (n := n) (la := la) C.gp D.1 (fc := 6) (by omega) (k_setShare C.gp D W (x := x) (y := v) ⟨by omega, by omega⟩ ⟨by omega, by omega⟩ f)
    rw [e] at k
    exact ⟨k, fun n1 => ⟨rfl, rfl, rfl, W3⟩⟩
theorem t_15 (C : Ok X cL_acts wsL_acts RL (some .boolean) 9 21) (E : En X 1 6 (Pw S la (N + 20) c h t p b w)) (hcl : (xR X).cells = 1) (hsl : (xR X).slots = 6) (K : Tc X S mu N o c h t p b q w) (hx : 0 ≤ x ∧ x < mu w 2) (ew : was = jX mu w x) (hw : 0 ≤ ww ∧ ww < 100000) :
    V X 1233 [some (.ref o), some (.ref w), some (.ref (w + 1)), some (.ref (w + 2)), some (.ref (w + 3)), some (.int z), some (.int (I32 ww)), some (.int (I32 x)), some (.int (I32 y)), some (.int (I32 was)), none, none, none, none, none, none, none, none, none, none, none] [] S n mu la 0 0 := by
  obtain ⟨gn, gx, l9, D, O, hL, A, hN⟩ := K
  have p5 := A.p5
  have np := A.lr.np
  have H := A.ly
  have m13 := A.lr.m13 H
  have W0 := A.cw.wo (show 0 ≤ N ∧ N ≤ 16000000 from ⟨by omega, by omega⟩)
  have px : pnF mu c x = 1 := if_pos ⟨hx.1, by omega⟩
  have bx : 0 ≤ jX mu w x ∧ jX mu w x ≤ 2 := by unfold jX; (repeat' split) <;> omega
  obtain ⟨d1, d2⟩ := act_w O A hN hx
  rw [← ew] at d1 d2
  by_cases q9 : was = 0
  · have f := d1 q9
    have xx := x_activate (n := n) (la := la) (S := S) C.gp gx l9 D W0 (x := x) ⟨by omega, by omega⟩ (Or.inr (Or.inr f))
    rw [f] at xx
    exact a_15 C E hcl hsl hL A.cw.2 ⟨hx.1, by omega⟩ (by omega) (m3 := mu) (fun _ => ⟨L_wakes_x3 C.gp gn D.1 xx, fun n1 => ⟨rfl, rfl, rfl, Wi.mono20 A⟩⟩) (fun q' => absurd q9 q')
  · obtain ⟨d3, d4⟩ := d2 q9
    obtain ⟨W, f, e, W3⟩ := d4 _ rfl
    have k := L_wakes_o (l := xL X) (n := n) (la := la) C.gp D.1 (fc := 6) (by omega) (k_activate C.gp D W (x := x) ⟨by omega, by omega⟩ f)
    rw [e] at k
    exact a_15 C E hcl hsl hL A.cw.2 ⟨hx.1, by omega⟩ (by omega) (fun q' => absurd q' q9) (fun _ => ⟨d3, k, fun n1 => ⟨rfl, rfl, rfl, W3⟩⟩)
end TC
