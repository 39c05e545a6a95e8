/-! THE LAW OF p32: a turn that docks or floats -/
theorem Wi.mono20 {N : Int} {mu : Mem} {c h t p b w : Nat} (A : Wi N mu c h t p b w) : Wi (N + 20) mu c h t p b w := Wi.mk (A.cw.mono (by omega)) A.lr A.p5 A.hd A.ls
section TB
variable {X : Cx} {S : Sh} {n : Nat} {mu : Mem} {la : Lam} {c h t p b q w o : Nat} {z : Int32} {ww x y was N : Int}
theorem t_2 (C : Ok X cL_acts wsL_acts RL (some .boolean) 9 21) (E : En X 1 6 (Pw S la (N + 20) c h t p b w)) (hcl : (xR X).cells = 1) (hsl : (xR X).slots = 6) (K : Tc X S mu N o c h t p b q w) (hx : 0 ≤ x ∧ x < mu w 2) (hy : 0 ≤ y ∧ y < mu w 2) (hxy : x ≠ y) (hw : 0 ≤ ww ∧ ww < 100000) :
    V X 433 [some (.ref o), some (.ref w), some (.ref (w + 1)), some (.ref (w + 2)), some (.ref (w + 3)), some (.int z), some (.int (I32 ww)), some (.int (I32 x)), some (.int (I32 y)), some (.int (I32 was)), none, none, none, none, none, none, none, none, none, none, none] [] S n mu la 0 0 := by
  obtain ⟨gn, gx, l9, D, O, hL, A, hN⟩ := K
  have p5 := A.p5
  have np := A.lr.np
  have H := A.ly
  have m13 := A.lr.m13 H
  have W0 := A.cw.wo (show 0 ≤ N ∧ N ≤ 16000000 from ⟨by omega, by omega⟩)
  have px : pnF mu c x = 1 := if_pos ⟨hx.1, by omega⟩
  obtain ⟨d1, d2⟩ := dock_w O A hN hx hy hxy (side := ww / 25 % 5) ⟨by omega, by omega⟩
  by_cases q : jX mu w y = 0 ∨ (jX mu w y = 2 ∧ ww / 25 % 5 < 4)
  · have xx := x_dock (n := n) (la := la) (S := S) C.gp gx l9 D W0 (x := x) (y := y) (z := ww / 25 % 5) ⟨by omega, by omega⟩ ⟨by omega, by omega⟩ ⟨by omega, by omega⟩ (Or.inr (Or.inr (d1 q)))
    rw [d1 q] at xx
    exact a_2 C E hcl hsl hL A.cw.2 hx hy (by omega) ⟨m13.1, by omega⟩ rfl hw (m1 := mu) (m2 := mu) (an := 0) ⟨by omega, by omega⟩ (fun _ => L_docks_x3 C.gp gn D.1 xx) (fun _ n1 => ⟨rfl, rfl, rfl, Wi.mono20 A⟩) (fun q' => absurd q q')
  · obtain ⟨f, d2⟩ := d2 q
    obtain ⟨m2, an, e, anb, hD, R1, x1, x2, x3, W2⟩ := d2 _ rfl
    have k := L_docks_o (l := xL X) (n := n) (la := la) C.gp D.1 (fc := 6) (by omega) (k_dock C.gp D W0 (x := x) (y := y) (z := ww / 25 % 5) ⟨by omega, by omega⟩ ⟨by omega, by omega⟩ ⟨by omega, by omega⟩ f)
    rw [e] at k
    exact a_2 C E hcl hsl hL A.cw.2 hx hy (by omega) ⟨m13.1, by omega⟩ rfl hw anb (fun q' => absurd q' q) (fun q' => absurd q' q) (fun _ => ⟨k, hD, R1, x1, x2, x3, fun n1 => ⟨rfl, rfl, rfl, W2⟩⟩)
theorem t_6 (C : Ok X cL_acts wsL_acts RL (some .boolean) 9 21) (E : En X 1 6 (Pw S la (N + 20) c h t p b w)) (hcl : (xR X).cells = 1) (hsl : (xR X).slots = 6) (K : Tc X S mu N o c h t p b q w) (hx : 0 ≤ x ∧ x < mu w 2) (hw : 0 ≤ ww ∧ ww < 100000) :
    V X 523 [some (.ref o), some (.ref w), some (.ref (w + 1)), some (.ref (w + 2)), some (.ref (w + 3)), some (.int z), some (.int (I32 ww)), some (.int (I32 x)), some (.int (I32 y)), some (.int (I32 was)), none, none, none, none, none, none, none, none, none, none, none] [] S n mu la 0 0 := by
  obtain ⟨gn, gx, l9, D, O, hL, A, hN⟩ := K
  have p5 := A.p5
  have np := A.lr.np
  have H := A.ly
  have m13 := A.lr.m13 H
  have W0 := A.cw.wo (show 0 ≤ N ∧ N ≤ 16000000 from ⟨by omega, by omega⟩)
  have px : pnF mu c x = 1 := if_pos ⟨hx.1, by omega⟩
  obtain ⟨f, d2⟩ := edge_w O A hN hx (side := ww / 25 % 4) ⟨by omega, by omega⟩
  obtain ⟨m2, e, hE, R1, x1, x2, x3, x4, R2, W2⟩ := d2 _ rfl
  have k := L_edges_o (l := xL X) (n := n) (la := la) C.gp D.1 (fc := 6) (by omega) (k_dockAtEdge C.gp D W0 (x := x) (z := ww / 25 % 4) ⟨by omega, by omega⟩ ⟨by omega, by omega⟩ f)
  rw [e] at k
  exact a_6 C E hcl hsl hL rfl hw k hE R1 x1 x2 x3 x4 R2 (fun n1 => ⟨rfl, rfl, rfl, W2⟩)
theorem t_9 (C : Ok X cL_acts wsL_acts RL (some .boolean) 9 21) (E : En X 1 6 (Pw S la (N + 20) c h t p b w)) (hcl : (xR X).cells = 1) (hsl : (xR X).slots = 6) (K : Tc X S mu N o c h t p b q w) (hx : 0 ≤ x ∧ x < mu w 2) (hw : 0 ≤ ww ∧ ww < 100000) :
    V X 562 [some (.ref o), some (.ref w), some (.ref (w + 1)), some (.ref (w + 2)), some (.ref (w + 3)), some (.int z), some (.int (I32 ww)), some (.int (I32 x)), some (.int (I32 y)), some (.int (I32 was)), none, none, none, none, none, none, none, none, none, none, none] [] S n mu la 0 0 := by
  obtain ⟨gn, gx, l9, D, O, hL, A, hN⟩ := K
  have p5 := A.p5
  have np := A.lr.np
  have H := A.ly
  have m13 := A.lr.m13 H
  have W0 := A.cw.wo (show 0 ≤ N ∧ N ≤ 16000000 from ⟨by omega, by omega⟩)
  have px : pnF mu c x = 1 := if_pos ⟨hx.1, by omega⟩
  obtain ⟨m1, g, hK, hfg, h4, d2⟩ := float_w O A hN hx (y := ww / 5 % 120) (z := ww / 7 % 80) (u := 1 + ww / 11 % 60) (v := 1 + ww / 13 % 40) ⟨by omega, by omega⟩ ⟨by omega, by omega⟩ ⟨by omega, by omega⟩ ⟨by omega, by omega⟩
  obtain ⟨W, f, d3⟩ := d2 _ rfl
  obtain ⟨e1, e2, W3⟩ := d3 _ rfl
  have k := L_floats_o (l := xL X) (n := n) (la := la) C.gp D.1 (fc := 6) (by omega) (k_floatAt C.gp D W (x := x) (y := ww / 5 % 120) (z := ww / 7 % 80) (w := 1 + ww / 11 % 60) (v := 1 + ww / 13 % 40) ⟨by omega, by omega⟩ ⟨by omega, by omega⟩ ⟨by omega, by omega⟩ ⟨by omega, by omega⟩ ⟨by omega, by omega⟩ f)
  rw [e1] at k
  exact a_9 C E hcl hsl hL A.cw.2 hx (by omega) ⟨m13.1, by omega⟩ hw hK hfg h4 k e2 (fun n1 => ⟨rfl, rfl, rfl, W3⟩)
end TB
