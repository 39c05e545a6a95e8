/-! THE LAW OF p32: a turn, whatever it does -/
def Pw (S : Sh) (la : Lam) (N : Int) (c h t p b w : Nat) : Option Value → Sh → Nat → Mem → Lam → Prop := fun o' S' _ mu' la' => o' = some (.int (I32 1)) ∧ S' = S ∧ la' = la ∧ Wi N mu' c h t p b w
def Tc (X : Cx) (S : Sh) (mu : Mem) (N : Int) (o c h t p b q w : Nat) : Prop := GN (xG X) ∧ GX (xG X) ∧ (xL X).stackTraces = false ∧ DoS S o c h t p b q ∧ Od c h t p b q w ∧ LwS S w ∧ Wi N mu c h t p b w ∧ (1000000 ≤ N ∧ N ≤ 10000000)
theorem Wi.rngs {N : Int} {mu : Mem} {c h t p b w : Nat} (A : Wi N mu c h t p b w) : ((20 ≤ mu w 0 ∧ mu w 0 ≤ 400) ∧ 20 ≤ mu w 1 ∧ mu w 1 ≤ 400) ∧ ∀ k : Int, 0 ≤ k → k < mu w 2 → (0 ≤ mu (w + 2) (4 * k) ∧ mu (w + 2) (4 * k) ≤ 60) ∧ 0 ≤ mu (w + 2) (4 * k + 1) ∧ mu (w + 2) (4 * k + 1) ≤ 60 := by
  have p5 := A.p5
  have np := A.lr.np
  have hd := A.hd
  obtain ⟨⟨s, past, tx, np', nt, C⟩, -⟩ := A.cw
  have w1 := C.st.wid
  have w2 := C.st.hig
  refine ⟨⟨⟨by omega, by omega⟩, by omega, by omega⟩, fun k k1 k2 => ?_⟩
  have l := A.ls k k1 (by omega)
  have l1 := C.st.lst (2 * k) (by omega) (by omega)
  have l2 := C.st.lst (2 * k + 1) (by omega) (by omega)
  omega
section TA
variable {X : Cx} {S : Sh} {n : Nat} {mu : Mem} {la : Lam} {c h t p b q w o : Nat} {z : Int32} {ww x y was N : Int}
theorem t_add (C : Ok X cL_acts wsL_acts RL (some .boolean) 9 21) (E : En X 1 6 (Pw S la (N + 20) c h t p b w)) (hcl : (xR X).cells = 1) (hsl : (xR X).slots = 6) (K : Tc X S mu N o c h t p b q w) (hP : mu w 2 ≤ 4) (hw : 0 ≤ ww ∧ ww < 100000) :
    V X 35 [some (.ref o), some (.ref w), some (.ref (w + 1)), some (.ref (w + 2)), some (.ref (w + 3)), some (.int z), some (.int (I32 ww)), none, none, none, none, none, none, none, none, none, none, none, none, none, none] [] S n mu la 0 0 := by
  obtain ⟨gn, gx, l9, D, O, hL, A, hN⟩ := K
  have p5 := A.p5
  have np := A.lr.np
  refine a_add C E hcl hsl hL ⟨by omega, hP⟩ hw (m3 := fun lw lh => if (1 ≤ lw ∧ lw ≤ 60) ∧ (1 ≤ lh ∧ lh ≤ 60) then stlM (apM (pshM (up (up (up (up mu (w + 2) (4 * mu w 2) lw) (w + 2) (4 * mu w 2 + 1) lh) (w + 2) (4 * mu w 2 + 2) (-1)) w 2 (mu w 2 + 1)) c h) c lw lh) p c else up mu w 2 (mu w 2 + 1)) (fun lw lh h1 h2 => ?_) (fun lw lh => ?_) (fun lw lh n1 h1 h2 => ?_)
  · obtain ⟨W, f, an, -, -⟩ := add_w O A hN hP h1 h2 rfl
    have k := L_adds_o (l := xL X) (n := n) (la := la) C.gp D.1 (fc := 6) (by omega) (k_addPane C.gp D W ⟨by omega, by omega⟩ ⟨by omega, by omega⟩ f)
    rw [an] at k
    try dsimp only
    rw [if_pos ⟨h1, h2⟩]
    exact k
  · try dsimp only
    split
    · rename_i q
      exact (add_w O A hN hP q.1 q.2 rfl).2.2.2.1
    · exact up_s _ _ _ _
  · refine ⟨rfl, rfl, rfl, ?_⟩
    try dsimp only
    rw [if_pos ⟨h1, h2⟩]
    exact (add_w O A hN hP h1 h2 rfl).2.2.2.2
theorem t_0 (C : Ok X cL_acts wsL_acts RL (some .boolean) 9 21) (E : En X 1 6 (Pw S la (N + 20) c h t p b w)) (hcl : (xR X).cells = 1) (hsl : (xR X).slots = 6) (K : Tc X S mu N o c h t p b q w) (hw : 0 ≤ ww ∧ ww < 100000) :
    V X 264 [some (.ref o), some (.ref w), some (.ref (w + 1)), some (.ref (w + 2)), some (.ref (w + 3)), some (.int z), some (.int (I32 ww)), some (.int (I32 x)), some (.int (I32 y)), some (.int (I32 was)), none, none, none, none, none, none, none, none, none, none, none] [] S n mu la 0 0 := by
  obtain ⟨gn, gx, l9, D, O, hL, A, hN⟩ := K
  have rn := A.rngs.1
  refine a_0 C E hcl hsl hL rn.1 rn.2 hw (m3 := fun lw lh => stlM (up (up (pshM (up (up mu w 0 lw) w 1 lh) c h) c 0 lw) c 1 lh) p c) (fun lw lh h1 h2 => ?_) (fun lw lh n1 h1 h2 => ?_)
  · obtain ⟨W, f, an, -⟩ := win_w O A hN h1 h2 rfl
    have k := L_sizes_o (l := xL X) (n := n) (la := la) C.gp D.1 (fc := 6) (by omega) (k_setWindow C.gp D W ⟨by omega, by omega⟩ ⟨by omega, by omega⟩ f)
    rw [an] at k
    exact k
  · exact ⟨rfl, rfl, rfl, (win_w O A hN h1 h2 rfl).2.2.2⟩
theorem t_1 (C : Ok X cL_acts wsL_acts RL (some .boolean) 9 21) (E : En X 1 6 (Pw S la (N + 20) c h t p b w)) (hcl : (xR X).cells = 1) (hsl : (xR X).slots = 6) (K : Tc X S mu N o c h t p b q w) (hx : 0 ≤ x ∧ x < mu w 2) (hw : 0 ≤ ww ∧ ww < 100000) :
    V X 348 [some (.ref o), some (.ref w), some (.ref (w + 1)), some (.ref (w + 2)), some (.ref (w + 3)), some (.int z), some (.int (I32 ww)), some (.int (I32 x)), some (.int (I32 y)), some (.int (I32 was)), none, none, none, none, none, none, none, none, none, none, none] [] S n mu la 0 0 := by
  obtain ⟨gn, gx, l9, D, O, hL, A, hN⟩ := K
  have p5 := A.p5
  have np := A.lr.np
  have rn := A.rngs.2 x hx.1 hx.2
  obtain ⟨W, f, an, Wf⟩ := lst_w O A hN hx (x := 1 + ww / 5 % 60) (y := 1 + ww / 11 % 60) ⟨by omega, by omega⟩ ⟨by omega, by omega⟩ rfl
  have k := L_leasts_o (l := xL X) (n := n) (la := la) C.gp D.1 (fc := 6) (by omega) (k_setLeast C.gp D W ⟨by omega, by omega⟩ ⟨by omega, by omega⟩ ⟨by omega, by omega⟩ f)
  rw [an] at k
  exact a_1 C E hcl hsl hL ⟨hx.1, by omega⟩ rn.1 rn.2 hw k (fun n1 => ⟨rfl, rfl, rfl, Wf⟩)
end TA
