/-! THE LAW'S CASES: the class beside the reference, from one invariant to the next -/
def Lw (X : Cx) (S : Sh) (xs : Nat → Int32) (w M a c h t p b q r o : Nat) : Prop :=
  Ok X cL_law wsL_law RL (some .boolean) 12 7 ∧ va_X w M xs (xS X) (xS X).heap ∧ (w < (xS X).heap.size ∧ w < gZ (xG X)) ∧ M ≤ 3072 ∧ hasS S o (.inl (1, 1)) ∧ MoS S r ∧ DoS S a c h t p b q ∧ Od c h t p b q r ∧ GE (xG X) ∧ GX (xG X) ∧ GN (xG X) ∧ (xL X).stackTraces = false
section LD
variable {X : Cx} {S : Sh} {n : Nat} {mu : Mem} {la : Lam} {k sl w M a c h t p b q r o : Nat} {xs : Nat → Int32} {i N : Int}
theorem D_setWindow (Y : Lw X S xs w M a c h t p b q r o) (A : Inv N mu c h t p b r) (hN : 1000000 ≤ N ∧ N ≤ 8000000) (hi : 0 ≤ i ∧ i + 6 ≤ M) (hk : k + 1 ≤ (xR X).cells ∧ sl + 6 ≤ (xR X).slots)
    (kk : ∀ (n1 : Nat) (mu2 : Mem) (la2 : Lam), Inv (N + 3000) mu2 c h t p b r → V X 1932 [some (.ref w), some (.ref a), some (.ref r), some (.ref o), some (.int (I32 i)), none, none] [] S n1 mu2 la2 (k + 1) (sl + 6)) : V X 172 [some (.ref w), some (.ref a), some (.ref r), some (.ref o), some (.int (I32 i)), none, none] [] S n mu la k sl := by
  obtain ⟨C, hX, hw, hM9, hO, hM, hD, O, hE, hGX, hGN, hl9⟩ := Y
  have s1 := sc_b xs (i + 1)
  have s2 := sc_b xs (i + 2)
  by_cases z : fwF (sc xs (i + 1)) (sc xs (i + 2)) = 0
  · obtain ⟨mu1, mu2, v, K, P, e7, J⟩ := gq_setWindow C.gp hD hM O A hN s1 s2 z
    exact C_setWindow C hX hw hM9 hi hO hM (f9 := 2) (by decide) (L_setWindow_k C.gp hO hD.1 (by decide) (K (xL X) n la)) (fun n1 => P (xL X) n1 _) ⟨Int.le_refl 0, by decide⟩ e7 (fun _ => if_pos ⟨rfl, rfl⟩) hk (fun n1 => kk n1 _ _ J)
  · have Wk := A.w0 hN
    obtain ⟨kc, mu2, v, cs, P, e7, J⟩ := hq_setWindow C.gp hD hM O A hN s1 s2 z
    have e := L_setWindow (mu := mu) (mu' := mu) (v := 0) (fc := 0) (l := xL X) (n := n) (la := la) C.gp hGN hO hD.1 (by decide) cs (fun e0 => absurd e0 z) (fun _ => x_setWindow C.gp hGX hl9 hD Wk s1 s2 (by omega))
    rw [if_neg z, if_neg z] at e
    exact C_setWindow C hX hw hM9 hi hO hM (f9 := 2) (by decide) e (fun n1 => P (xL X) n1 _) (by omega) e7 (fun e0 => absurd e0 (by omega)) hk (fun n1 => kk n1 _ _ J)
theorem D_addPane (Y : Lw X S xs w M a c h t p b q r o) (A : Inv N mu c h t p b r) (hN : 1000000 ≤ N ∧ N ≤ 8000000) (hi : 0 ≤ i ∧ i + 6 ≤ M) (hk : k + 1 ≤ (xR X).cells ∧ sl + 6 ≤ (xR X).slots)
    (kk : ∀ (n1 : Nat) (mu2 : Mem) (la2 : Lam), Inv (N + 3000) mu2 c h t p b r → V X 1932 [some (.ref w), some (.ref a), some (.ref r), some (.ref o), some (.int (I32 i)), none, none] [] S n1 mu2 la2 (k + 1) (sl + 6)) : V X 240 [some (.ref w), some (.ref a), some (.ref r), some (.ref o), some (.int (I32 i)), none, none] [] S n mu la k sl := by
  obtain ⟨C, hX, hw, hM9, hO, hM, hD, O, hE, hGX, hGN, hl9⟩ := Y
  have s1 := sc_b xs (i + 1)
  have s2 := sc_b xs (i + 2)
  by_cases z : fnF mu c (sc xs (i + 1)) (sc xs (i + 2)) = 0
  · obtain ⟨mu1, mu2, v, K, P, e7, J⟩ := gq_addPane C.gp hD hM O A hN s1 s2 z
    exact C_addPane C hX hw hM9 hi hO hM (f9 := 3) (by decide) (L_addPane_k C.gp hO hD.1 (by decide) (K (xL X) n la)) (fun n1 => P (xL X) n1 _) ⟨Int.le_refl 0, by decide⟩ e7 (fun _ => if_pos ⟨rfl, rfl⟩) hk (fun n1 => kk n1 _ _ J)
  · have Wk := A.w0 hN
    obtain ⟨kc, mu2, v, cs, P, e7, J⟩ := hq_addPane C.gp hD hM O A hN s1 s2 z
    have e := L_addPane (mu := mu) (mu' := mu) (v := 0) (fc := 0) (l := xL X) (n := n) (la := la) C.gp hGN hO hD.1 (by decide) cs (fun e0 => absurd e0 z) (fun _ => x_addPane C.gp hGX hl9 hD Wk s1 s2 (by omega))
    rw [if_neg z, if_neg z] at e
    exact C_addPane C hX hw hM9 hi hO hM (f9 := 3) (by decide) e (fun n1 => P (xL X) n1 _) (by omega) e7 (fun e0 => absurd e0 (by omega)) hk (fun n1 => kk n1 _ _ J)
theorem D_setLeast (Y : Lw X S xs w M a c h t p b q r o) (A : Inv N mu c h t p b r) (hN : 1000000 ≤ N ∧ N ≤ 8000000) (hi : 0 ≤ i ∧ i + 6 ≤ M) (hk : k + 1 ≤ (xR X).cells ∧ sl + 6 ≤ (xR X).slots)
    (kk : ∀ (n1 : Nat) (mu2 : Mem) (la2 : Lam), Inv (N + 3000) mu2 c h t p b r → V X 1932 [some (.ref w), some (.ref a), some (.ref r), some (.ref o), some (.int (I32 i)), none, none] [] S n1 mu2 la2 (k + 1) (sl + 6)) : V X 308 [some (.ref w), some (.ref a), some (.ref r), some (.ref o), some (.int (I32 i)), none, none] [] S n mu la k sl := by
  obtain ⟨C, hX, hw, hM9, hO, hM, hD, O, hE, hGX, hGN, hl9⟩ := Y
  have s1 := sc_b xs (i + 1)
  have s2 := sc_b xs (i + 2)
  have s3 := sc_b xs (i + 3)
  by_cases z : slF mu c (sc xs (i + 1)) (sc xs (i + 2)) (sc xs (i + 3)) = 0
  · obtain ⟨mu1, mu2, v, K, P, e7, J⟩ := gq_setLeast C.gp hD hM O A hN s1 s2 s3 z
    exact C_setLeast C hX hw hM9 hi hO hM (f9 := 2) (by decide) (L_setLeast_k C.gp hO hD.1 (by decide) (K (xL X) n la)) (fun n1 => P (xL X) n1 _) ⟨Int.le_refl 0, by decide⟩ e7 (fun _ => if_pos ⟨rfl, rfl⟩) hk (fun n1 => kk n1 _ _ J)
  · have Wk := A.w0 hN
    obtain ⟨kc, mu2, v, cs, P, e7, J⟩ := hq_setLeast C.gp hD hM O A hN s1 s2 s3 z
    have e := L_setLeast (mu := mu) (mu' := mu) (v := 0) (fc := 0) (l := xL X) (n := n) (la := la) C.gp hGN hO hD.1 (by decide) cs (fun e0 => absurd e0 z) (fun _ => x_setLeast C.gp hGX hl9 hD Wk s1 s2 s3 (by omega))
    rw [if_neg z, if_neg z] at e
    exact C_setLeast C hX hw hM9 hi hO hM (f9 := 2) (by decide) e (fun n1 => P (xL X) n1 _) (by omega) e7 (fun e0 => absurd e0 (by omega)) hk (fun n1 => kk n1 _ _ J)
theorem D_dock (Y : Lw X S xs w M a c h t p b q r o) (A : Inv N mu c h t p b r) (hN : 1000000 ≤ N ∧ N ≤ 8000000) (hi : 0 ≤ i ∧ i + 6 ≤ M) (hk : k + 1 ≤ (xR X).cells ∧ sl + 6 ≤ (xR X).slots)
    (kk : ∀ (n1 : Nat) (mu2 : Mem) (la2 : Lam), Inv (N + 3000) mu2 c h t p b r → V X 1932 [some (.ref w), some (.ref a), some (.ref r), some (.ref o), some (.int (I32 i)), none, none] [] S n1 mu2 la2 (k + 1) (sl + 6)) : V X 388 [some (.ref w), some (.ref a), some (.ref r), some (.ref o), some (.int (I32 i)), none, none] [] S n mu la k sl := by
  obtain ⟨C, hX, hw, hM9, hO, hM, hD, O, hE, hGX, hGN, hl9⟩ := Y
  have s1 := sc_b xs (i + 1)
  have s2 := sc_b xs (i + 2)
  have s3 := sc_b xs (i + 3)
  by_cases z : fdF mu c (sc xs (i + 1)) (sc xs (i + 2)) (sc xs (i + 3)) = 0
  · obtain ⟨mu1, mu2, v, K, P, e7, J⟩ := gq_dock C.gp hD hM O A hN s1 s2 s3 z
    exact C_dock C hX hw hM9 hi hO hM (f9 := 6) (by decide) (L_dock_k C.gp hO hD.1 (by decide) (K (xL X) n la)) (fun n1 => P (xL X) n1 _) ⟨Int.le_refl 0, by decide⟩ e7 (fun _ => if_pos ⟨rfl, rfl⟩) hk (fun n1 => kk n1 _ _ J)
  · have Wk := A.w0 hN
    obtain ⟨kc, mu2, v, cs, P, e7, J⟩ := hq_dock C.gp hD hM O A hN s1 s2 s3 z
    have e := L_dock (mu := mu) (mu' := mu) (v := 0) (fc := 0) (l := xL X) (n := n) (la := la) C.gp hGN hO hD.1 (by decide) cs (fun e0 => absurd e0 z) (fun _ => x_dock C.gp hGX hl9 hD Wk s1 s2 s3 (by omega))
    rw [if_neg z, if_neg z] at e
    exact C_dock C hX hw hM9 hi hO hM (f9 := 6) (by decide) e (fun n1 => P (xL X) n1 _) (by omega) e7 (fun e0 => absurd e0 (by omega)) hk (fun n1 => kk n1 _ _ J)
theorem D_dockAtEdge (Y : Lw X S xs w M a c h t p b q r o) (A : Inv N mu c h t p b r) (hN : 1000000 ≤ N ∧ N ≤ 8000000) (hi : 0 ≤ i ∧ i + 6 ≤ M) (hk : k + 1 ≤ (xR X).cells ∧ sl + 6 ≤ (xR X).slots)
    (kk : ∀ (n1 : Nat) (mu2 : Mem) (la2 : Lam), Inv (N + 3000) mu2 c h t p b r → V X 1932 [some (.ref w), some (.ref a), some (.ref r), some (.ref o), some (.int (I32 i)), none, none] [] S n1 mu2 la2 (k + 1) (sl + 6)) : V X 468 [some (.ref w), some (.ref a), some (.ref r), some (.ref o), some (.int (I32 i)), none, none] [] S n mu la k sl := by
  obtain ⟨C, hX, hw, hM9, hO, hM, hD, O, hE, hGX, hGN, hl9⟩ := Y
  have s1 := sc_b xs (i + 1)
  have s2 := sc_b xs (i + 2)
  by_cases z : fgF mu c (sc xs (i + 1)) (sc xs (i + 2)) = 0
  · obtain ⟨mu1, mu2, v, K, P, e7, J⟩ := gq_dockAtEdge C.gp hD hM O A hN s1 s2 z
    exact C_dockAtEdge C hX hw hM9 hi hO hM (f9 := 5) (by decide) (L_dockAtEdge_k C.gp hO hD.1 (by decide) (K (xL X) n la)) (fun n1 => P (xL X) n1 _) ⟨Int.le_refl 0, by decide⟩ e7 (fun _ => if_pos ⟨rfl, rfl⟩) hk (fun n1 => kk n1 _ _ J)
  · have Wk := A.w0 hN
    obtain ⟨kc, mu2, v, cs, P, e7, J⟩ := hq_dockAtEdge C.gp hD hM O A hN s1 s2 z
    have e := L_dockAtEdge (mu := mu) (mu' := mu) (v := 0) (fc := 0) (l := xL X) (n := n) (la := la) C.gp hGN hO hD.1 (by decide) cs (fun e0 => absurd e0 z) (fun _ => x_dockAtEdge C.gp hGX hl9 hD Wk s1 s2 (by omega))
    rw [if_neg z, if_neg z] at e
    exact C_dockAtEdge C hX hw hM9 hi hO hM (f9 := 5) (by decide) e (fun n1 => P (xL X) n1 _) (by omega) e7 (fun e0 => absurd e0 (by omega)) hk (fun n1 => kk n1 _ _ J)
theorem D_floatAt (Y : Lw X S xs w M a c h t p b q r o) (A : Inv N mu c h t p b r) (hN : 1000000 ≤ N ∧ N ≤ 8000000) (hi : 0 ≤ i ∧ i + 6 ≤ M) (hk : k + 1 ≤ (xR X).cells ∧ sl + 6 ≤ (xR X).slots)
    (kk : ∀ (n1 : Nat) (mu2 : Mem) (la2 : Lam), Inv (N + 3000) mu2 c h t p b r → V X 1932 [some (.ref w), some (.ref a), some (.ref r), some (.ref o), some (.int (I32 i)), none, none] [] S n1 mu2 la2 (k + 1) (sl + 6)) : V X 536 [some (.ref w), some (.ref a), some (.ref r), some (.ref o), some (.int (I32 i)), none, none] [] S n mu la k sl := by
  obtain ⟨C, hX, hw, hM9, hO, hM, hD, O, hE, hGX, hGN, hl9⟩ := Y
  have s1 := sc_b xs (i + 1)
  have s2 := sc_b xs (i + 2)
  have s3 := sc_b xs (i + 3)
  have s4 := sc_b xs (i + 4)
  have s5 := sc_b xs (i + 5)
  by_cases z : fflF mu c (sc xs (i + 1)) (sc xs (i + 2)) (sc xs (i + 3)) (sc xs (i + 4)) (sc xs (i + 5)) = 0
  · obtain ⟨mu1, mu2, v, K, P, e7, J⟩ := gq_floatAt C.gp hD hM O A hN s1 s2 s3 s4 s5 z
    exact C_floatAt C hX hw hM9 hi hO hM (f9 := 5) (by decide) (L_floatAt_k C.gp hO hD.1 (by decide) (K (xL X) n la)) (fun n1 => P (xL X) n1 _) ⟨Int.le_refl 0, by decide⟩ e7 (fun _ => if_pos ⟨rfl, rfl⟩) hk (fun n1 => kk n1 _ _ J)
  · have Wk := A.w0 hN
    obtain ⟨kc, mu2, v, cs, P, e7, J⟩ := hq_floatAt C.gp hD hM O A hN s1 s2 s3 s4 s5 z
    have e := L_floatAt (mu := mu) (mu' := mu) (v := 0) (fc := 0) (l := xL X) (n := n) (la := la) C.gp hGN hO hD.1 (by decide) cs (fun e0 => absurd e0 z) (fun _ => x_floatAt C.gp hGX hl9 hD Wk s1 s2 s3 s4 s5 (by omega))
    rw [if_neg z, if_neg z] at e
    exact C_floatAt C hX hw hM9 hi hO hM (f9 := 5) (by decide) e (fun n1 => P (xL X) n1 _) (by omega) e7 (fun e0 => absurd e0 (by omega)) hk (fun n1 => kk n1 _ _ J)
theorem D_raise (Y : Lw X S xs w M a c h t p b q r o) (A : Inv N mu c h t p b r) (hN : 1000000 ≤ N ∧ N ≤ 8000000) (hi : 0 ≤ i ∧ i + 6 ≤ M) (hk : k + 1 ≤ (xR X).cells ∧ sl + 6 ≤ (xR X).slots)
    (kk : ∀ (n1 : Nat) (mu2 : Mem) (la2 : Lam), Inv (N + 3000) mu2 c h t p b r → V X 1932 [some (.ref w), some (.ref a), some (.ref r), some (.ref o), some (.int (I32 i)), none, none] [] S n1 mu2 la2 (k + 1) (sl + 6)) : V X 640 [some (.ref w), some (.ref a), some (.ref r), some (.ref o), some (.int (I32 i)), none, none] [] S n mu la k sl := by
  obtain ⟨C, hX, hw, hM9, hO, hM, hD, O, hE, hGX, hGN, hl9⟩ := Y
  have s1 := sc_b xs (i + 1)
  by_cases z : faF mu c (sc xs (i + 1)) = 0
  · obtain ⟨mu1, mu2, v, K, P, e7, J⟩ := gq_raise C.gp hD hM O A hN s1 z
    exact C_raise C hX hw hM9 hi hO hM (f9 := 2) (by decide) (L_raise_k C.gp hO hD.1 (by decide) (K (xL X) n la)) (fun n1 => P (xL X) n1 _) ⟨Int.le_refl 0, by decide⟩ e7 (fun _ => if_pos ⟨rfl, rfl⟩) hk (fun n1 => kk n1 _ _ J)
  · have Wk := A.w0 hN
    obtain ⟨kc, mu2, v, cs, P, e7, J⟩ := hq_raise C.gp hD hM O A hN s1 z
    have e := L_raise (mu := mu) (mu' := mu) (v := 0) (fc := 0) (l := xL X) (n := n) (la := la) C.gp hGN hO hD.1 (by decide) cs (fun e0 => absurd e0 z) (fun _ => x_raise C.gp hGX hl9 hD Wk s1 (by omega))
    rw [if_neg z, if_neg z] at e
    exact C_raise C hX hw hM9 hi hO hM (f9 := 2) (by decide) e (fun n1 => P (xL X) n1 _) (by omega) e7 (fun e0 => absurd e0 (by omega)) hk (fun n1 => kk n1 _ _ J)
theorem D_close (Y : Lw X S xs w M a c h t p b q r o) (A : Inv N mu c h t p b r) (hN : 1000000 ≤ N ∧ N ≤ 8000000) (hi : 0 ≤ i ∧ i + 6 ≤ M) (hk : k + 1 ≤ (xR X).cells ∧ sl + 6 ≤ (xR X).slots)
    (kk : ∀ (n1 : Nat) (mu2 : Mem) (la2 : Lam), Inv (N + 3000) mu2 c h t p b r → V X 1932 [some (.ref w), some (.ref a), some (.ref r), some (.ref o), some (.int (I32 i)), none, none] [] S n1 mu2 la2 (k + 1) (sl + 6)) : V X 696 [some (.ref w), some (.ref a), some (.ref r), some (.ref o), some (.int (I32 i)), none, none] [] S n mu la k sl := by
  obtain ⟨C, hX, hw, hM9, hO, hM, hD, O, hE, hGX, hGN, hl9⟩ := Y
  have s1 := sc_b xs (i + 1)
  by_cases z : fpF mu c (sc xs (i + 1)) = 0
  · obtain ⟨mu1, mu2, v, K, P, e7, J⟩ := gq_close C.gp hD hM O A hN s1 z
    exact C_close C hX hw hM9 hi hO hM (f9 := 5) (by decide) (L_close_k C.gp hO hD.1 (by decide) (K (xL X) n la)) (fun n1 => P (xL X) n1 _) ⟨Int.le_refl 0, by decide⟩ e7 (fun _ => if_pos ⟨rfl, rfl⟩) hk (fun n1 => kk n1 _ _ J)
  · have Wk := A.w0 hN
    obtain ⟨kc, mu2, v, cs, P, e7, J⟩ := hq_close C.gp hD hM O A hN s1 z
    have e := L_close (mu := mu) (mu' := mu) (v := 0) (fc := 0) (l := xL X) (n := n) (la := la) C.gp hGN hO hD.1 (by decide) cs (fun e0 => absurd e0 z) (fun _ => x_close C.gp hGX hl9 hD Wk s1 (by omega))
    rw [if_neg z, if_neg z] at e
    exact C_close C hX hw hM9 hi hO hM (f9 := 5) (by decide) e (fun n1 => P (xL X) n1 _) (by omega) e7 (fun e0 => absurd e0 (by omega)) hk (fun n1 => kk n1 _ _ J)
theorem D_activate (Y : Lw X S xs w M a c h t p b q r o) (A : Inv N mu c h t p b r) (hN : 1000000 ≤ N ∧ N ≤ 8000000) (hi : 0 ≤ i ∧ i + 6 ≤ M) (hk : k + 1 ≤ (xR X).cells ∧ sl + 6 ≤ (xR X).slots)
    (kk : ∀ (n1 : Nat) (mu2 : Mem) (la2 : Lam), Inv (N + 3000) mu2 c h t p b r → V X 1932 [some (.ref w), some (.ref a), some (.ref r), some (.ref o), some (.int (I32 i)), none, none] [] S n1 mu2 la2 (k + 1) (sl + 6)) : V X 752 [some (.ref w), some (.ref a), some (.ref r), some (.ref o), some (.int (I32 i)), none, none] [] S n mu la k sl := by
  obtain ⟨C, hX, hw, hM9, hO, hM, hD, O, hE, hGX, hGN, hl9⟩ := Y
  have s1 := sc_b xs (i + 1)
  by_cases z : foF mu c (sc xs (i + 1)) = 0
  · obtain ⟨mu1, mu2, v, K, P, e7, J⟩ := gq_activate C.gp hD hM O A hN s1 z
    exact C_activate C hX hw hM9 hi hO hM (f9 := 2) (by decide) (L_activate_k C.gp hO hD.1 (by decide) (K (xL X) n la)) (fun n1 => P (xL X) n1 _) ⟨Int.le_refl 0, by decide⟩ e7 (fun _ => if_pos ⟨rfl, rfl⟩) hk (fun n1 => kk n1 _ _ J)
  · have Wk := A.w0 hN
    obtain ⟨kc, mu2, v, cs, P, e7, J⟩ := hq_activate C.gp hD hM O A hN s1 z
    have e := L_activate (mu := mu) (mu' := mu) (v := 0) (fc := 0) (l := xL X) (n := n) (la := la) C.gp hGN hO hD.1 (by decide) cs (fun e0 => absurd e0 z) (fun _ => x_activate C.gp hGX hl9 hD Wk s1 (by omega))
    rw [if_neg z, if_neg z] at e
    exact C_activate C hX hw hM9 hi hO hM (f9 := 2) (by decide) e (fun n1 => P (xL X) n1 _) (by omega) e7 (fun e0 => absurd e0 (by omega)) hk (fun n1 => kk n1 _ _ J)
theorem D_moveTab (Y : Lw X S xs w M a c h t p b q r o) (A : Inv N mu c h t p b r) (hN : 1000000 ≤ N ∧ N ≤ 8000000) (hi : 0 ≤ i ∧ i + 6 ≤ M) (hk : k + 1 ≤ (xR X).cells ∧ sl + 6 ≤ (xR X).slots)
    (kk : ∀ (n1 : Nat) (mu2 : Mem) (la2 : Lam), Inv (N + 3000) mu2 c h t p b r → V X 1932 [some (.ref w), some (.ref a), some (.ref r), some (.ref o), some (.int (I32 i)), none, none] [] S n1 mu2 la2 (k + 1) (sl + 6)) : V X 808 [some (.ref w), some (.ref a), some (.ref r), some (.ref o), some (.int (I32 i)), none, none] [] S n mu la k sl := by
  obtain ⟨C, hX, hw, hM9, hO, hM, hD, O, hE, hGX, hGN, hl9⟩ := Y
  have s1 := sc_b xs (i + 1)
  have s2 := sc_b xs (i + 2)
  by_cases z : fmF mu c (sc xs (i + 1)) (sc xs (i + 2)) = 0
  · obtain ⟨mu1, mu2, v, K, P, e7, J⟩ := gq_moveTab C.gp hD hM O A hN s1 s2 z
    exact C_moveTab C hX hw hM9 hi hO hM (f9 := 2) (by decide) (L_moveTab_k C.gp hO hD.1 (by decide) (K (xL X) n la)) (fun n1 => P (xL X) n1 _) ⟨Int.le_refl 0, by decide⟩ e7 (fun _ => if_pos ⟨rfl, rfl⟩) hk (fun n1 => kk n1 _ _ J)
  · have Wk := A.w0 hN
    obtain ⟨kc, mu2, v, cs, P, e7, J⟩ := hq_moveTab C.gp hD hM O A hN s1 s2 z
    have e := L_moveTab (mu := mu) (mu' := mu) (v := 0) (fc := 0) (l := xL X) (n := n) (la := la) C.gp hGN hO hD.1 (by decide) cs (fun e0 => absurd e0 z) (fun _ => x_moveTab C.gp hGX hl9 hD Wk s1 s2 (by omega))
    rw [if_neg z, if_neg z] at e
    exact C_moveTab C hX hw hM9 hi hO hM (f9 := 2) (by decide) e (fun n1 => P (xL X) n1 _) (by omega) e7 (fun e0 => absurd e0 (by omega)) hk (fun n1 => kk n1 _ _ J)
theorem D_setShare (Y : Lw X S xs w M a c h t p b q r o) (A : Inv N mu c h t p b r) (hN : 1000000 ≤ N ∧ N ≤ 8000000) (hi : 0 ≤ i ∧ i + 6 ≤ M) (hk : k + 1 ≤ (xR X).cells ∧ sl + 6 ≤ (xR X).slots)
    (kk : ∀ (n1 : Nat) (mu2 : Mem) (la2 : Lam), Inv (N + 3000) mu2 c h t p b r → V X 1932 [some (.ref w), some (.ref a), some (.ref r), some (.ref o), some (.int (I32 i)), none, none] [] S n1 mu2 la2 (k + 1) (sl + 6)) : V X 876 [some (.ref w), some (.ref a), some (.ref r), some (.ref o), some (.int (I32 i)), none, none] [] S n mu la k sl := by
  obtain ⟨C, hX, hw, hM9, hO, hM, hD, O, hE, hGX, hGN, hl9⟩ := Y
  have s1 := sc_b xs (i + 1)
  have s2 := sc_b xs (i + 2)
  by_cases z : fshF mu c (sc xs (i + 1)) (sc xs (i + 2)) = 0
  · obtain ⟨mu1, mu2, v, K, P, e7, J⟩ := gq_setShare C.gp hD hM O A hN s1 s2 z
    exact C_setShare C hX hw hM9 hi hO hM (f9 := 3) (by decide) (L_setShare_k C.gp hO hD.1 (by decide) (K (xL X) n la)) (fun n1 => P (xL X) n1 _) ⟨Int.le_refl 0, by decide⟩ e7 (fun _ => if_pos ⟨rfl, rfl⟩) hk (fun n1 => kk n1 _ _ J)
  · have Wk := A.w0 hN
    obtain ⟨kc, mu2, v, cs, P, e7, J⟩ := hq_setShare C.gp hD hM O A hN s1 s2 z
    have e := L_setShare (mu := mu) (mu' := mu) (v := 0) (fc := 0) (l := xL X) (n := n) (la := la) C.gp hGN hO hD.1 (by decide) cs (fun e0 => absurd e0 z) (fun _ => x_setShare C.gp hGX hl9 hD Wk s1 s2 (by omega))
    rw [if_neg z, if_neg z] at e
    exact C_setShare C hX hw hM9 hi hO hM (f9 := 3) (by decide) e (fun n1 => P (xL X) n1 _) (by omega) e7 (fun e0 => absurd e0 (by omega)) hk (fun n1 => kk n1 _ _ J)
theorem D_drag (Y : Lw X S xs w M a c h t p b q r o) (A : Inv N mu c h t p b r) (hN : 1000000 ≤ N ∧ N ≤ 8000000) (hi : 0 ≤ i ∧ i + 6 ≤ M) (hk : k + 1 ≤ (xR X).cells ∧ sl + 6 ≤ (xR X).slots)
    (kk : ∀ (n1 : Nat) (mu2 : Mem) (la2 : Lam), Inv (N + 3000) mu2 c h t p b r → V X 1932 [some (.ref w), some (.ref a), some (.ref r), some (.ref o), some (.int (I32 i)), none, none] [] S n1 mu2 la2 (k + 1) (sl + 6)) : V X 944 [some (.ref w), some (.ref a), some (.ref r), some (.ref o), some (.int (I32 i)), none, none] [] S n mu la k sl := by
  obtain ⟨C, hX, hw, hM9, hO, hM, hD, O, hE, hGX, hGN, hl9⟩ := Y
  have s1 := sc_b xs (i + 1)
  have s2 := sc_b xs (i + 2)
  by_cases z : fdrF mu c p (sc xs (i + 1)) (sc xs (i + 2)) = 0
  · obtain ⟨mu1, mu2, v, K, P, e7, J⟩ := gq_drag C.gp hD hM O A hN s1 s2 z
    exact C_drag C hX hw hM9 hi hO hM (f9 := 8) (by decide) (L_drag_k C.gp hO hD.1 (by decide) (K (xL X) n la)) (fun n1 => P (xL X) n1 _) ⟨Int.le_refl 0, by decide⟩ e7 (fun _ => if_pos ⟨rfl, rfl⟩) hk (fun n1 => kk n1 _ _ J)
  · have Wk := A.w0 hN
    obtain ⟨kc, mu2, v, cs, P, e7, J⟩ := hq_drag C.gp hD hM O A hN s1 s2 z
    have e := L_drag (mu := mu) (mu' := mu) (v := 0) (fc := 0) (l := xL X) (n := n) (la := la) C.gp hGN hO hD.1 (by decide) cs (fun e0 => absurd e0 z) (fun _ => x_drag C.gp hGX hl9 hD Wk s1 s2 (by omega))
    rw [if_neg z, if_neg z] at e
    exact C_drag C hX hw hM9 hi hO hM (f9 := 8) (by decide) e (fun n1 => P (xL X) n1 _) (by omega) e7 (fun e0 => absurd e0 (by omega)) hk (fun n1 => kk n1 _ _ J)
theorem D_save (Y : Lw X S xs w M a c h t p b q r o) (A : Inv N mu c h t p b r) (hN : 1000000 ≤ N ∧ N ≤ 8000000) (hi : 0 ≤ i ∧ i + 6 ≤ M) (hk : k + 1 ≤ (xR X).cells ∧ sl + 6 ≤ (xR X).slots)
    (kk : ∀ (n1 : Nat) (mu2 : Mem) (la2 : Lam), Inv (N + 3000) mu2 c h t p b r → V X 1932 [some (.ref w), some (.ref a), some (.ref r), some (.ref o), some (.int (I32 i)), none, none] [] S n1 mu2 la2 (k + 1) (sl + 6)) : V X 1012 [some (.ref w), some (.ref a), some (.ref r), some (.ref o), some (.int (I32 i)), none, none] [] S n mu la k sl := by
  obtain ⟨C, hX, hw, hM9, hO, hM, hD, O, hE, hGX, hGN, hl9⟩ := Y
  have s1 := sc_b xs (i + 1)
  by_cases z : frF (sc xs (i + 1)) 0 3 = 0
  · obtain ⟨mu1, mu2, v, K, P, e7, J⟩ := gq_save C.gp hD hM O A hN s1 z
    exact C_save C hX hw hM9 hi hO hM (f9 := 3) (by decide) (L_save_k C.gp hO hD.1 (by decide) (K (xL X) n la)) (fun n1 => P (xL X) n1 _) ⟨Int.le_refl 0, by decide⟩ e7 (fun _ => if_pos ⟨rfl, rfl⟩) hk (fun n1 => kk n1 _ _ J)
  · have Wk := A.w0 hN
    obtain ⟨kc, mu2, v, cs, P, e7, J⟩ := hq_save C.gp hD hM O A hN s1 z
    have e := L_save (mu := mu) (mu' := mu) (v := 0) (fc := 0) (l := xL X) (n := n) (la := la) C.gp hGN hO hD.1 (by decide) cs (fun e0 => absurd e0 z) (fun _ => x_save C.gp hGX hl9 s1 (by omega))
    rw [if_neg z, if_neg z] at e
    exact C_save C hX hw hM9 hi hO hM (f9 := 3) (by decide) e (fun n1 => P (xL X) n1 _) (by omega) e7 (fun e0 => absurd e0 (by omega)) hk (fun n1 => kk n1 _ _ J)
theorem D_bringBack (Y : Lw X S xs w M a c h t p b q r o) (A : Inv N mu c h t p b r) (hN : 1000000 ≤ N ∧ N ≤ 8000000) (hi : 0 ≤ i ∧ i + 6 ≤ M) (hk : k + 1 ≤ (xR X).cells ∧ sl + 6 ≤ (xR X).slots)
    (kk : ∀ (n1 : Nat) (mu2 : Mem) (la2 : Lam), Inv (N + 3000) mu2 c h t p b r → V X 1932 [some (.ref w), some (.ref a), some (.ref r), some (.ref o), some (.int (I32 i)), none, none] [] S n1 mu2 la2 (k + 1) (sl + 6)) : V X 1068 [some (.ref w), some (.ref a), some (.ref r), some (.ref o), some (.int (I32 i)), none, none] [] S n mu la k sl := by
  obtain ⟨C, hX, hw, hM9, hO, hM, hD, O, hE, hGX, hGN, hl9⟩ := Y
  have s1 := sc_b xs (i + 1)
  by_cases z : flF8 mu c (sc xs (i + 1)) = 0
  · obtain ⟨mu1, mu2, v, K, P, e7, J⟩ := gq_bringBack C.gp hD hM O A hN s1 z
    exact C_bringBack C hX hw hM9 hi hO hM (f9 := 3) (by decide) (L_bringBack_k C.gp hO hD.1 (by decide) (K (xL X) n la)) (fun n1 => P (xL X) n1 _) ⟨Int.le_refl 0, by decide⟩ e7 (fun _ => if_pos ⟨rfl, rfl⟩) hk (fun n1 => kk n1 _ _ J)
  · have Wk := A.w0 hN
    obtain ⟨kc, mu2, v, cs, P, e7, J⟩ := hq_bringBack C.gp hD hM O A hN s1 z
    have e := L_bringBack (mu := mu) (mu' := mu) (v := 0) (fc := 0) (l := xL X) (n := n) (la := la) C.gp hGN hO hD.1 (by decide) cs (fun e0 => absurd e0 z) (fun _ => x_bringBack C.gp hGX hl9 hD Wk s1 (by omega))
    rw [if_neg z, if_neg z] at e
    exact C_bringBack C hX hw hM9 hi hO hM (f9 := 3) (by decide) e (fun n1 => P (xL X) n1 _) (by omega) e7 (fun e0 => absurd e0 (by omega)) hk (fun n1 => kk n1 _ _ J)
theorem D_pane (Y : Lw X S xs w M a c h t p b q r o) (A : Inv N mu c h t p b r) (hN : 1000000 ≤ N ∧ N ≤ 8000000) (hi : 0 ≤ i ∧ i + 6 ≤ M) (hk : k + 1 ≤ (xR X).cells ∧ sl + 6 ≤ (xR X).slots)
    (kk : ∀ (n1 : Nat) (mu2 : Mem) (la2 : Lam), Inv (N + 3000) mu2 c h t p b r → V X 1932 [some (.ref w), some (.ref a), some (.ref r), some (.ref o), some (.int (I32 i)), none, none] [] S n1 mu2 la2 (k + 1) (sl + 6)) : V X 1124 [some (.ref w), some (.ref a), some (.ref r), some (.ref o), some (.int (I32 i)), none, none] [] S n mu la k sl := by
  obtain ⟨C, hX, hw, hM9, hO, hM, hD, O, hE, hGX, hGN, hl9⟩ := Y
  have s1 := sc_b xs (i + 1)
  have s2 := sc_b xs (i + 2)
  by_cases z : ppF mu c (sc xs (i + 1)) (sc xs (i + 2)) = 0
  · obtain ⟨mu1, mu2, v, K, P, e7, J⟩ := gq_pane C.gp hD hM O A hN s1 s2 z
    exact C_pane C hX hw hM9 hi hO hM (f9 := 7) (by decide) (L_pane_k C.gp hO hD.1 (by decide) (K (xL X) n la)) (fun n1 => P (xL X) n1 _) ⟨Int.le_refl 0, by decide⟩ e7 (fun _ => if_pos ⟨rfl, rfl⟩) hk (fun n1 => kk n1 _ _ J)
  · have Wk := A.w0 hN
    obtain ⟨kc, mu2, v, cs, P, e7, J⟩ := hq_pane C.gp hD hM O A hN s1 s2 z
    have e := L_pane (mu := mu) (mu' := mu) (v := 0) (fc := 0) (l := xL X) (n := n) (la := la) C.gp hGN hO hD.1 (by decide) cs (fun e0 => absurd e0 z) (fun _ => x_pane C.gp hGX hl9 hD Wk s1 s2 (by omega))
    rw [if_neg z, if_neg z] at e
    exact C_pane C hX hw hM9 hi hO hM (f9 := 7) (by decide) e (fun n1 => P (xL X) n1 _) (by omega) e7 (fun e0 => absurd e0 (by omega)) hk (fun n1 => kk n1 _ _ J)
theorem D_split (Y : Lw X S xs w M a c h t p b q r o) (A : Inv N mu c h t p b r) (hN : 1000000 ≤ N ∧ N ≤ 8000000) (hi : 0 ≤ i ∧ i + 6 ≤ M) (hk : k + 1 ≤ (xR X).cells ∧ sl + 6 ≤ (xR X).slots)
    (kk : ∀ (n1 : Nat) (mu2 : Mem) (la2 : Lam), Inv (N + 3000) mu2 c h t p b r → V X 1932 [some (.ref w), some (.ref a), some (.ref r), some (.ref o), some (.int (I32 i)), none, none] [] S n1 mu2 la2 (k + 1) (sl + 6)) : V X 1192 [some (.ref w), some (.ref a), some (.ref r), some (.ref o), some (.int (I32 i)), none, none] [] S n mu la k sl := by
  obtain ⟨C, hX, hw, hM9, hO, hM, hD, O, hE, hGX, hGN, hl9⟩ := Y
  have s1 := sc_b xs (i + 1)
  have s2 := sc_b xs (i + 2)
  have s3 := sc_b xs (i + 3)
  by_cases z : fspF mu c (sc xs (i + 1)) (sc xs (i + 2)) (sc xs (i + 3)) = 0
  · obtain ⟨mu1, mu2, v, K, P, e7, J⟩ := gq_split C.gp hD hM O A hN s1 s2 s3 z
    exact C_split C hX hw hM9 hi hO hM (f9 := 7) (by decide) (L_split_k C.gp hO hD.1 (by decide) (K (xL X) n la)) (fun n1 => P (xL X) n1 _) ⟨Int.le_refl 0, by decide⟩ e7 (fun _ => if_pos ⟨rfl, rfl⟩) hk (fun n1 => kk n1 _ _ J)
  · have Wk := A.w0 hN
    obtain ⟨kc, mu2, v, cs, P, e7, J⟩ := hq_split C.gp hD hM O A hN s1 s2 s3 z
    have e := L_split (mu := mu) (mu' := mu) (v := 0) (fc := 0) (l := xL X) (n := n) (la := la) C.gp hGN hO hD.1 (by decide) cs (fun e0 => absurd e0 z) (fun _ => x_split C.gp hGX hl9 hD Wk s1 s2 s3 (by omega))
    rw [if_neg z, if_neg z] at e
    exact C_split C hX hw hM9 hi hO hM (f9 := 7) (by decide) e (fun n1 => P (xL X) n1 _) (by omega) e7 (fun e0 => absurd e0 (by omega)) hk (fun n1 => kk n1 _ _ J)
theorem D_paneAt (Y : Lw X S xs w M a c h t p b q r o) (A : Inv N mu c h t p b r) (hN : 1000000 ≤ N ∧ N ≤ 8000000) (hi : 0 ≤ i ∧ i + 6 ≤ M) (hk : k + 1 ≤ (xR X).cells ∧ sl + 6 ≤ (xR X).slots)
    (kk : ∀ (n1 : Nat) (mu2 : Mem) (la2 : Lam), Inv (N + 3000) mu2 c h t p b r → V X 1932 [some (.ref w), some (.ref a), some (.ref r), some (.ref o), some (.int (I32 i)), none, none] [] S n1 mu2 la2 (k + 1) (sl + 6)) : V X 1272 [some (.ref w), some (.ref a), some (.ref r), some (.ref o), some (.int (I32 i)), none, none] [] S n mu la k sl := by
  obtain ⟨C, hX, hw, hM9, hO, hM, hD, O, hE, hGX, hGN, hl9⟩ := Y
  have s1 := sc_b xs (i + 1)
  have s2 := sc_b xs (i + 2)
  by_cases z : fpaF mu c (sc xs (i + 1)) (sc xs (i + 2)) = 0
  · obtain ⟨mu1, mu2, v, K, P, e7, J⟩ := gq_paneAt C.gp hD hM O A hN s1 s2 z
    exact C_paneAt C hX hw hM9 hi hO hM (f9 := 7) (by decide) (L_paneAt_k C.gp hO hD.1 (by decide) (K (xL X) n la)) (fun n1 => P (xL X) n1 _) ⟨Int.le_refl 0, by decide⟩ e7 (fun _ => if_pos ⟨rfl, rfl⟩) hk (fun n1 => kk n1 _ _ J)
  · have Wk := A.w0 hN
    obtain ⟨kc, mu2, v, cs, P, e7, J⟩ := hq_paneAt C.gp hD hM O A hN s1 s2 z
    have e := L_paneAt (mu := mu) (mu' := mu) (v := 0) (fc := 0) (l := xL X) (n := n) (la := la) C.gp hGN hO hD.1 (by decide) cs (fun e0 => absurd e0 z) (fun _ => x_paneAt C.gp hGX hl9 hD Wk s1 s2 (by omega))
    rw [if_neg z, if_neg z] at e
    exact C_paneAt C hX hw hM9 hi hO hM (f9 := 7) (by decide) e (fun n1 => P (xL X) n1 _) (by omega) e7 (fun e0 => absurd e0 (by omega)) hk (fun n1 => kk n1 _ _ J)
theorem D_tab (Y : Lw X S xs w M a c h t p b q r o) (A : Inv N mu c h t p b r) (hN : 1000000 ≤ N ∧ N ≤ 8000000) (hi : 0 ≤ i ∧ i + 6 ≤ M) (hk : k + 1 ≤ (xR X).cells ∧ sl + 6 ≤ (xR X).slots)
    (kk : ∀ (n1 : Nat) (mu2 : Mem) (la2 : Lam), Inv (N + 3000) mu2 c h t p b r → V X 1932 [some (.ref w), some (.ref a), some (.ref r), some (.ref o), some (.int (I32 i)), none, none] [] S n1 mu2 la2 (k + 1) (sl + 6)) : V X 1340 [some (.ref w), some (.ref a), some (.ref r), some (.ref o), some (.int (I32 i)), none, none] [] S n mu la k sl := by
  obtain ⟨C, hX, hw, hM9, hO, hM, hD, O, hE, hGX, hGN, hl9⟩ := Y
  have s1 := sc_b xs (i + 1)
  have s2 := sc_b xs (i + 2)
  by_cases z : ftbF mu c (sc xs (i + 1)) (sc xs (i + 2)) = 0
  · obtain ⟨mu1, mu2, v, K, P, e7, J⟩ := gq_tab C.gp hD hM O A hN s1 s2 z
    exact C_tab C hX hw hM9 hi hO hM (f9 := 3) (by decide) (L_tab_k C.gp hO hD.1 (by decide) (K (xL X) n la)) (fun n1 => P (xL X) n1 _) ⟨Int.le_refl 0, by decide⟩ e7 (fun _ => if_pos ⟨rfl, rfl⟩) hk (fun n1 => kk n1 _ _ J)
  · have Wk := A.w0 hN
    obtain ⟨kc, mu2, v, cs, P, e7, J⟩ := hq_tab C.gp hD hM O A hN s1 s2 z
    have e := L_tab (mu := mu) (mu' := mu) (v := 0) (fc := 0) (l := xL X) (n := n) (la := la) C.gp hGN hO hD.1 (by decide) cs (fun e0 => absurd e0 z) (fun _ => x_tab C.gp hGX hl9 hD Wk s1 s2 (by omega))
    rw [if_neg z, if_neg z] at e
    exact C_tab C hX hw hM9 hi hO hM (f9 := 3) (by decide) e (fun n1 => P (xL X) n1 _) (by omega) e7 (fun e0 => absurd e0 (by omega)) hk (fun n1 => kk n1 _ _ J)
theorem D_group (Y : Lw X S xs w M a c h t p b q r o) (A : Inv N mu c h t p b r) (hN : 1000000 ≤ N ∧ N ≤ 8000000) (hi : 0 ≤ i ∧ i + 6 ≤ M) (hk : k + 1 ≤ (xR X).cells ∧ sl + 6 ≤ (xR X).slots)
    (kk : ∀ (n1 : Nat) (mu2 : Mem) (la2 : Lam), Inv (N + 3000) mu2 c h t p b r → V X 1932 [some (.ref w), some (.ref a), some (.ref r), some (.ref o), some (.int (I32 i)), none, none] [] S n1 mu2 la2 (k + 1) (sl + 6)) : V X 1408 [some (.ref w), some (.ref a), some (.ref r), some (.ref o), some (.int (I32 i)), none, none] [] S n mu la k sl := by
  obtain ⟨C, hX, hw, hM9, hO, hM, hD, O, hE, hGX, hGN, hl9⟩ := Y
  have s1 := sc_b xs (i + 1)
  by_cases z : fiF (sc xs (i + 1)) = 0
  · obtain ⟨mu1, mu2, v, K, P, e7, J⟩ := gq_group C.gp hD hM O A hN s1 z
    exact C_group C hX hw hM9 hi hO hM (f9 := 5) (by decide) (L_group_k C.gp hO hD.1 (by decide) (K (xL X) n la)) (fun n1 => P (xL X) n1 _) ⟨Int.le_refl 0, by decide⟩ e7 (fun _ => if_pos ⟨rfl, rfl⟩) hk (fun n1 => kk n1 _ _ J)
  · have Wk := A.w0 hN
    obtain ⟨kc, mu2, v, cs, P, e7, J⟩ := hq_group C.gp hD hM O A hN s1 z
    have e := L_group (mu := mu) (mu' := mu) (v := 0) (fc := 0) (l := xL X) (n := n) (la := la) C.gp hGN hO hD.1 (by decide) cs (fun e0 => absurd e0 z) (fun _ => x_group C.gp hGX hl9 s1 (by omega))
    rw [if_neg z, if_neg z] at e
    exact C_group C hX hw hM9 hi hO hM (f9 := 5) (by decide) e (fun n1 => P (xL X) n1 _) (by omega) e7 (fun e0 => absurd e0 (by omega)) hk (fun n1 => kk n1 _ _ J)
theorem D_floating (Y : Lw X S xs w M a c h t p b q r o) (A : Inv N mu c h t p b r) (hN : 1000000 ≤ N ∧ N ≤ 8000000) (hi : 0 ≤ i ∧ i + 6 ≤ M) (hk : k + 1 ≤ (xR X).cells ∧ sl + 6 ≤ (xR X).slots)
    (kk : ∀ (n1 : Nat) (mu2 : Mem) (la2 : Lam), Inv (N + 3000) mu2 c h t p b r → V X 1932 [some (.ref w), some (.ref a), some (.ref r), some (.ref o), some (.int (I32 i)), none, none] [] S n1 mu2 la2 (k + 1) (sl + 6)) : V X 1464 [some (.ref w), some (.ref a), some (.ref r), some (.ref o), some (.int (I32 i)), none, none] [] S n mu la k sl := by
  obtain ⟨C, hX, hw, hM9, hO, hM, hD, O, hE, hGX, hGN, hl9⟩ := Y
  have s1 := sc_b xs (i + 1)
  by_cases z : fiF (sc xs (i + 1)) = 0
  · obtain ⟨mu1, mu2, v, K, P, e7, J⟩ := gq_floating C.gp hD hM O A hN s1 z
    exact C_floating C hX hw hM9 hi hO hM (f9 := 5) (by decide) (L_floating_k C.gp hO hD.1 (by decide) (K (xL X) n la)) (fun n1 => P (xL X) n1 _) ⟨Int.le_refl 0, by decide⟩ e7 (fun _ => if_pos ⟨rfl, rfl⟩) hk (fun n1 => kk n1 _ _ J)
  · have Wk := A.w0 hN
    obtain ⟨kc, mu2, v, cs, P, e7, J⟩ := hq_floating C.gp hD hM O A hN s1 z
    have e := L_floating (mu := mu) (mu' := mu) (v := 0) (fc := 0) (l := xL X) (n := n) (la := la) C.gp hGN hO hD.1 (by decide) cs (fun e0 => absurd e0 z) (fun _ => x_floating C.gp hGX hl9 s1 (by omega))
    rw [if_neg z, if_neg z] at e
    exact C_floating C hX hw hM9 hi hO hM (f9 := 5) (by decide) e (fun n1 => P (xL X) n1 _) (by omega) e7 (fun e0 => absurd e0 (by omega)) hk (fun n1 => kk n1 _ _ J)
theorem D_whole (Y : Lw X S xs w M a c h t p b q r o) (A : Inv N mu c h t p b r) (hN : 1000000 ≤ N ∧ N ≤ 8000000) (hi : 0 ≤ i ∧ i + 6 ≤ M) (hk : k + 1 ≤ (xR X).cells ∧ sl + 6 ≤ (xR X).slots)
    (kk : ∀ (n1 : Nat) (mu2 : Mem) (la2 : Lam), Inv (N + 3000) mu2 c h t p b r → V X 1932 [some (.ref w), some (.ref a), some (.ref r), some (.ref o), some (.int (I32 i)), none, none] [] S n1 mu2 la2 (k + 1) (sl + 6)) : V X 1520 [some (.ref w), some (.ref a), some (.ref r), some (.ref o), some (.int (I32 i)), none, none] [] S n mu la k sl := by
  obtain ⟨C, hX, hw, hM9, hO, hM, hD, O, hE, hGX, hGN, hl9⟩ := Y
  have s1 := sc_b xs (i + 1)
  by_cases z : frF (sc xs (i + 1)) 0 11 = 0
  · obtain ⟨mu1, mu2, v, K, P, e7, J⟩ := gq_whole C.gp hD hM O A hN s1 z
    exact C_whole C hX hw hM9 hi hO hM (f9 := 7) (by decide) (L_whole_k C.gp hO hD.1 (by decide) (K (xL X) n la)) (fun n1 => P (xL X) n1 _) ⟨Int.le_refl 0, by decide⟩ e7 (fun _ => if_pos ⟨rfl, rfl⟩) hk (fun n1 => kk n1 _ _ J)
  · have Wk := A.w0 hN
    obtain ⟨kc, mu2, v, cs, P, e7, J⟩ := hq_whole C.gp hD hM O A hN s1 z
    have e := L_whole (mu := mu) (mu' := mu) (v := 0) (fc := 0) (l := xL X) (n := n) (la := la) C.gp hGN hO hD.1 (by decide) cs (fun e0 => absurd e0 z) (fun _ => x_whole C.gp hGX hl9 s1 (by omega))
    rw [if_neg z, if_neg z] at e
    exact C_whole C hX hw hM9 hi hO hM (f9 := 7) (by decide) e (fun n1 => P (xL X) n1 _) (by omega) e7 (fun e0 => absurd e0 (by omega)) hk (fun n1 => kk n1 _ _ J)
theorem D_tightIn (Y : Lw X S xs w M a c h t p b q r o) (A : Inv N mu c h t p b r) (hN : 1000000 ≤ N ∧ N ≤ 8000000) (hi : 0 ≤ i ∧ i + 6 ≤ M) (hk : k + 1 ≤ (xR X).cells ∧ sl + 6 ≤ (xR X).slots)
    (kk : ∀ (n1 : Nat) (mu2 : Mem) (la2 : Lam), Inv (N + 3000) mu2 c h t p b r → V X 1932 [some (.ref w), some (.ref a), some (.ref r), some (.ref o), some (.int (I32 i)), none, none] [] S n1 mu2 la2 (k + 1) (sl + 6)) : V X 1576 [some (.ref w), some (.ref a), some (.ref r), some (.ref o), some (.int (I32 i)), none, none] [] S n mu la k sl := by
  obtain ⟨C, hX, hw, hM9, hO, hM, hD, O, hE, hGX, hGN, hl9⟩ := Y
  have s1 := sc_b xs (i + 1)
  have s2 := sc_b xs (i + 2)
  by_cases z : fwF (sc xs (i + 1)) (sc xs (i + 2)) = 0
  · obtain ⟨mu1, mu2, v, K, P, e7, J⟩ := gq_tightIn C.gp hD hM O A hN s1 s2 z
    exact C_tightIn C hX hw hM9 hi hO hM (f9 := 6) (by decide) (L_tightIn_k C.gp hO hD.1 (by decide) (K (xL X) n la)) (fun n1 => P (xL X) n1 _) ⟨Int.le_refl 0, by decide⟩ e7 (fun _ => if_pos ⟨rfl, rfl⟩) hk (fun n1 => kk n1 _ _ J)
  · have Wk := A.w0 hN
    obtain ⟨kc, mu2, v, cs, P, e7, J⟩ := hq_tightIn C.gp hD hM O A hN s1 s2 z
    have e := L_tightIn (mu := mu) (mu' := mu) (v := 0) (fc := 0) (l := xL X) (n := n) (la := la) C.gp hGN hO hD.1 (by decide) cs (fun e0 => absurd e0 z) (fun _ => x_tightIn C.gp hGX hl9 s1 s2 (by omega))
    rw [if_neg z, if_neg z] at e
    exact C_tightIn C hX hw hM9 hi hO hM (f9 := 6) (by decide) e (fun n1 => P (xL X) n1 _) (by omega) e7 (fun e0 => absurd e0 (by omega)) hk (fun n1 => kk n1 _ _ J)
theorem D_cellsIf (Y : Lw X S xs w M a c h t p b q r o) (A : Inv N mu c h t p b r) (hN : 1000000 ≤ N ∧ N ≤ 8000000) (hi : 0 ≤ i ∧ i + 6 ≤ M) (hk : k + 1 ≤ (xR X).cells ∧ sl + 6 ≤ (xR X).slots)
    (kk : ∀ (n1 : Nat) (mu2 : Mem) (la2 : Lam), Inv (N + 3000) mu2 c h t p b r → V X 1932 [some (.ref w), some (.ref a), some (.ref r), some (.ref o), some (.int (I32 i)), none, none] [] S n1 mu2 la2 (k + 1) (sl + 6)) : V X 1644 [some (.ref w), some (.ref a), some (.ref r), some (.ref o), some (.int (I32 i)), none, none] [] S n mu la k sl := by
  obtain ⟨C, hX, hw, hM9, hO, hM, hD, O, hE, hGX, hGN, hl9⟩ := Y
  have s1 := sc_b xs (i + 1)
  have s2 := sc_b xs (i + 2)
  have s3 := sc_b xs (i + 3)
  by_cases z : fdF mu c (sc xs (i + 1)) (sc xs (i + 2)) (sc xs (i + 3)) = 0
  · obtain ⟨mu1, mu2, v, K, P, e7, J⟩ := gq_cellsIf C.gp hD hM O A hN s1 s2 s3 z
    exact C_cellsIf C hX hw hM9 hi hO hM (f9 := 8) (by decide) (L_cellsIf_k C.gp hO hD.1 (by decide) (K (xL X) n la)) (fun n1 => P (xL X) n1 _) ⟨Int.le_refl 0, by decide⟩ e7 (fun _ => if_pos ⟨rfl, rfl⟩) hk (fun n1 => kk n1 _ _ J)
  · have Wk := A.w0 hN
    obtain ⟨kc, mu2, v, cs, P, e7, J⟩ := hq_cellsIf C.gp hD hM O A hN s1 s2 s3 z
    have e := L_cellsIf (mu := mu) (mu' := mu) (v := 0) (fc := 0) (l := xL X) (n := n) (la := la) C.gp hGN hO hD.1 (by decide) cs (fun e0 => absurd e0 z) (fun _ => x_cellsIf C.gp hGX hl9 hD Wk s1 s2 s3 (by omega))
    rw [if_neg z, if_neg z] at e
    exact C_cellsIf C hX hw hM9 hi hO hM (f9 := 8) (by decide) e (fun n1 => P (xL X) n1 _) (by omega) e7 (fun e0 => absurd e0 (by omega)) hk (fun n1 => kk n1 _ _ J)
theorem D_bestSide (Y : Lw X S xs w M a c h t p b q r o) (A : Inv N mu c h t p b r) (hN : 1000000 ≤ N ∧ N ≤ 8000000) (hi : 0 ≤ i ∧ i + 6 ≤ M) (hk : k + 1 ≤ (xR X).cells ∧ sl + 6 ≤ (xR X).slots)
    (kk : ∀ (n1 : Nat) (mu2 : Mem) (la2 : Lam), Inv (N + 3000) mu2 c h t p b r → V X 1932 [some (.ref w), some (.ref a), some (.ref r), some (.ref o), some (.int (I32 i)), none, none] [] S n1 mu2 la2 (k + 1) (sl + 6)) : V X 1724 [some (.ref w), some (.ref a), some (.ref r), some (.ref o), some (.int (I32 i)), none, none] [] S n mu la k sl := by
  obtain ⟨C, hX, hw, hM9, hO, hM, hD, O, hE, hGX, hGN, hl9⟩ := Y
  have s1 := sc_b xs (i + 1)
  have s2 := sc_b xs (i + 2)
  by_cases z : fdF mu c (sc xs (i + 1)) (sc xs (i + 2)) 0 = 0
  · obtain ⟨mu1, mu2, v, K, P, e7, J⟩ := gq_bestSide C.gp hD hM O A hN s1 s2 z
    exact C_bestSide C hX hw hM9 hi hO hM (f9 := 8) (by decide) (L_bestSide_k C.gp hO hD.1 (by decide) (K (xL X) n la)) (fun n1 => P (xL X) n1 _) ⟨Int.le_refl 0, by decide⟩ e7 (fun _ => if_pos ⟨rfl, rfl⟩) hk (fun n1 => kk n1 _ _ J)
  · have Wk := A.w0 hN
    obtain ⟨kc, mu2, v, cs, P, e7, J⟩ := hq_bestSide C.gp hD hM O A hN s1 s2 z
    have e := L_bestSide (mu := mu) (mu' := mu) (v := 0) (fc := 0) (l := xL X) (n := n) (la := la) C.gp hGN hO hD.1 (by decide) cs (fun e0 => absurd e0 z) (fun _ => x_bestSide C.gp hGX hl9 hD Wk s1 s2 (by omega))
    rw [if_neg z, if_neg z] at e
    exact C_bestSide C hX hw hM9 hi hO hM (f9 := 8) (by decide) e (fun n1 => P (xL X) n1 _) (by omega) e7 (fun e0 => absurd e0 (by omega)) hk (fun n1 => kk n1 _ _ J)
theorem D_type (Y : Lw X S xs w M a c h t p b q r o) (A : Inv N mu c h t p b r) (hN : 1000000 ≤ N ∧ N ≤ 8000000) (hi : 0 ≤ i ∧ i + 6 ≤ M) (hk : k + 1 ≤ (xR X).cells ∧ sl + 6 ≤ (xR X).slots)
    (kk : ∀ (n1 : Nat) (mu2 : Mem) (la2 : Lam), Inv (N + 3000) mu2 c h t p b r → V X 1932 [some (.ref w), some (.ref a), some (.ref r), some (.ref o), some (.int (I32 i)), none, none] [] S n1 mu2 la2 (k + 1) (sl + 6)) : V X 1792 [some (.ref w), some (.ref a), some (.ref r), some (.ref o), some (.int (I32 i)), none, none] [] S n mu la k sl := by
  obtain ⟨C, hX, hw, hM9, hO, hM, hD, O, hE, hGX, hGN, hl9⟩ := Y
  have s1 := sc_b xs (i + 1)
  by_cases z : ftyF mu t (sc xs (i + 1)) = 0
  · obtain ⟨mu1, mu2, v, K, P, e7, J⟩ := gq_type C.gp hD hM O A hN s1 z
    exact C_type C hX hw hM9 hi hO hM (f9 := 1) (by decide) (L_type_k C.gp hO hD.1 (by decide) (K (xL X) n la)) (fun n1 => P (xL X) n1 _) ⟨Int.le_refl 0, by decide⟩ e7 (fun _ => if_pos ⟨rfl, rfl⟩) hk (fun n1 => kk n1 _ _ J)
  · have Wk := A.w0 hN
    obtain ⟨kc, mu2, v, cs, P, e7, J⟩ := hq_type C.gp hD hM O A hN s1 z
    have e := L_type (mu := mu) (mu' := mu) (v := 0) (fc := 0) (l := xL X) (n := n) (la := la) C.gp hGN hO hD.1 (by decide) cs (fun e0 => absurd e0 z) (fun _ => x_type C.gp hGX hl9 hD Wk s1 (by omega))
    rw [if_neg z, if_neg z] at e
    exact C_type C hX hw hM9 hi hO hM (f9 := 1) (by decide) e (fun n1 => P (xL X) n1 _) (by omega) e7 (fun e0 => absurd e0 (by omega)) hk (fun n1 => kk n1 _ _ J)
theorem D_undo (Y : Lw X S xs w M a c h t p b q r o) (A : Inv N mu c h t p b r) (hN : 1000000 ≤ N ∧ N ≤ 8000000) (hi : 0 ≤ i ∧ i + 6 ≤ M) (hk : k + 1 ≤ (xR X).cells ∧ sl + 6 ≤ (xR X).slots)
    (kk : ∀ (n1 : Nat) (mu2 : Mem) (la2 : Lam), Inv (N + 3000) mu2 c h t p b r → V X 1932 [some (.ref w), some (.ref a), some (.ref r), some (.ref o), some (.int (I32 i)), none, none] [] S n1 mu2 la2 (k + 1) (sl + 6)) : V X 1874 [some (.ref w), some (.ref a), some (.ref r), some (.ref o), some (.int (I32 i)), none, none] [] S n mu la k sl := by
  obtain ⟨C, hX, hw, hM9, hO, hM, hD, O, hE, hGX, hGN, hl9⟩ := Y
  by_cases z : fuF mu h = 0
  · obtain ⟨mu1, mu2, v, K, P, e7, J⟩ := gq_undo C.gp hD hM O A hN  z
    exact C_undo C hX hw hM9 hi hO hM (f9 := 1) (by decide) (L_undo_k C.gp hO hD.1 (by decide) (K (xL X) n la)) (fun n1 => P (xL X) n1 _) ⟨Int.le_refl 0, by decide⟩ e7 (fun _ => if_pos ⟨rfl, rfl⟩) hk (fun n1 => kk n1 _ _ J)
  · have Wk := A.w0 hN
    obtain ⟨kc, mu2, v, cs, P, e7, J⟩ := hq_undo C.gp hD hM O A hN  z
    have e := L_undo (mu := mu) (mu' := mu) (v := 0) (fc := 0) (l := xL X) (n := n) (la := la) C.gp hGN hO hD.1 (by decide) cs (fun e0 => absurd e0 z) (fun _ => x_undo C.gp hGX hl9 hD Wk  (by omega))
    rw [if_neg z, if_neg z] at e
    exact C_undo C hX hw hM9 hi hO hM (f9 := 1) (by decide) e (fun n1 => P (xL X) n1 _) (by omega) e7 (fun e0 => absurd e0 (by omega)) hk (fun n1 => kk n1 _ _ J)
theorem I32_t (v : Int) : I32 (I32 v).toInt = I32 v := Int32.ofInt_toInt _
theorem I32_tb (v : Int) : -2147483648 ≤ (I32 v).toInt ∧ (I32 v).toInt ≤ 2147483647 := ⟨Int32.le_toInt _, by have := Int32.toInt_lt (I32 v); omega⟩
theorem D_clear (Y : Lw X S xs w M a c h t p b q r o) (A : Inv N mu c h t p b r) (hN : 1000000 ≤ N ∧ N ≤ 8000000) (hk : k + 1 ≤ (xR X).cells ∧ sl + 6 ≤ (xR X).slots)
    (kk : ∀ (n1 : Nat) (mu2 : Mem) (la2 : Lam), Inv (N + 3000) mu2 c h t p b r → V X 1932 [some (.ref w), some (.ref a), some (.ref r), some (.ref o), some (.int (I32 i)), none, none] [] S n1 mu2 la2 (k + 1) (sl + 6)) : V X 1848 [some (.ref w), some (.ref a), some (.ref r), some (.ref o), some (.int (I32 i)), none, none] [] S n mu la k sl := by
  obtain ⟨C, hX, hw, hM9, hO, hM, hD, O, hE, hGX, hGN, hl9⟩ := Y
  have K : Ct (xG X) (xL X) yX8_clearCommands wsX8_clearCommands 1 0 0 [.ref a] S n mu la (Dt (some (.int (I32 (mu t 2)))) S n (up mu t 2 0) la) := k_clearCommands C.gp hD
  obtain ⟨mu1, e1⟩ : ∃ m : Mem, m = up mu t 2 0 := ⟨_, rfl⟩
  rw [← e1] at K
  obtain ⟨oV, J, e7⟩ := O_clear O A e1
  have P : Ct (xG X) (xL X) yX9_clearCommands wsX9_clearCommands 1 0 0 [.ref r] S n mu1 la (Dt (some (.int (I32 (mu1 r 6)))) S n (up (up mu1 r 6 0) r 7 0) la) := p_clearCommands C.gp hM
  rw [← oV] at P
  exact C_clearCommands C hD.1 hM (by decide) (by decide) (A.2 _ _) K P ⟨by omega, by omega⟩ (V_widen (by omega) (by omega) (kk n _ _ (J.mn (by omega))))
theorem D_run (Y : Lw X S xs w M a c h t p b q r o) (A : Inv N mu c h t p b r) (hN : 1000000 ≤ N ∧ N ≤ 8000000) (hk : k + 1 ≤ (xR X).cells ∧ sl + 6 ≤ (xR X).slots)
    (kk : ∀ (n1 : Nat) (mu2 : Mem) (la2 : Lam), Inv (N + 3000) mu2 c h t p b r → V X 1932 [some (.ref w), some (.ref a), some (.ref r), some (.ref o), some (.int (I32 i)), none, none] [] S n1 mu2 la2 (k + 1) (sl + 6)) : V X 1861 [some (.ref w), some (.ref a), some (.ref r), some (.ref o), some (.int (I32 i)), none, none] [] S n mu la k sl := by
  obtain ⟨C, hX, hw, hM9, hO, hM, hD, O, hE, hGX, hGN, hl9⟩ := Y
  have W := A.w0 hN
  by_cases z : (ftaF mu t (mu t 5) (mu (t + 2))).2.1 = -1
  · have K : Ct (xG X) (xL X) yX8_runCommands wsX8_runCommands 8 0 0 [.ref a] S n mu la (Dt (some (.int (I32 (rcG c t 150 (rc0 mu c h t) 0).1))) S n (stlM (rcG c t 150 (rc0 mu c h t) 0).2 p c) la) := k_runCommands C.gp hE hD W A.1.kd z (RQ N mu c h t b p r) (RQ_0 O A) (fun m Q => RQ_W A ⟨by omega, by omega⟩ Q) (fun m Q h1 h2 => RQ_1 O ⟨by omega, by omega⟩ Q h1 h2)
    obtain ⟨mu1, e1⟩ : ∃ m : Mem, m = stlM (rcG c t 150 (rc0 mu c h t) 0).2 p c := ⟨_, rfl⟩
    rw [← e1] at K
    obtain ⟨oV, W1, off, J⟩ := O_run O A ⟨by omega, by omega⟩ e1 (la r 21) (fqF mu1 r (la r 21)).2.2.1
    have f9 : (fqF mu1 r (la r 21)).1 = -1 := by rw [← O_run_f A off (la r 21)]; exact z
    have P := p_runCommands (l := xL X) (n := n) C.gp hM W1 f9 (RP N mu c h t b r) (RP_0 O A W1.1 off (la r 21)) (fun m Q => RP_W ⟨by omega, by omega⟩ Q) (fun m Q hl y => RP_1 O ⟨by omega, by omega⟩ Q hl y)
    rw [← oV, ← I32_t] at P
    rw [← I32_t] at K
    exact C_runCommands C hD.1 hM (by decide) (by decide) (I32_tb _) K P ⟨by omega, by omega⟩ (V_widen (by omega) (by omega) (kk n _ _ J))
  · have K : Ct (xG X) (xL X) yX8_runCommands wsX8_runCommands 8 0 0 [.ref a] S n mu la (Dt (some (.int (I32 (-10 - (ftaF mu t (mu t 5) (mu (t + 2))).2.1)))) S n (rc1 mu t) la) := k_runFault C.gp hE hD W A.1.kd z
    obtain ⟨mu1, e1⟩ : ∃ m : Mem, m = rc1 mu t := ⟨_, rfl⟩
    rw [← e1] at K
    obtain ⟨W1, J, off⟩ := O_run_b O A ⟨by omega, by omega⟩ e1 (la r 21)
    have ef := O_run_f A off (la r 21)
    have P := p_runFault (l := xL X) (n := n) (la := la) C.gp hM W1 (by rw [← ef]; exact z)
    rw [← ef, ← I32_t] at P
    rw [← I32_t] at K
    exact C_runCommands C hD.1 hM (by decide) (by decide) (I32_tb _) K P ⟨by omega, by omega⟩ (V_widen (by omega) (by omega) (kk n _ _ (J.mn (by omega))))
theorem D_digest (Y : Lw X S xs w M a c h t p b q r o) (A : Inv N mu c h t p b r) (hN : 1000000 ≤ N ∧ N ≤ 8000000) (hk : k + 1 ≤ (xR X).cells ∧ sl + 6 ≤ (xR X).slots)
    (kk : ∀ (n1 : Nat) (mu2 : Mem) (la2 : Lam), Inv (N + 3000) mu2 c h t p b r → V X 1932 [some (.ref w), some (.ref a), some (.ref r), some (.ref o), some (.int (I32 i)), none, none] [] S n1 mu2 la2 (k + 1) (sl + 6)) : V X 1918 [some (.ref w), some (.ref a), some (.ref r), some (.ref o), some (.int (I32 i)), none, none] [] S n mu la k sl := by
  obtain ⟨C, hX, hw, hM9, hO, hM, hD, O, hE, hGX, hGN, hl9⟩ := Y
  obtain ⟨oV, d1, d2, d3, d4, J, d5⟩ := O_dig O A ⟨by omega, by omega⟩
  have K := k_digest (l := xL X) (n := n) (la := la) C.gp hD (A.w0 hN) d5
  have P := m_digest (l := xL X) (n := n) (la := la) C.gp hM (A.mw ⟨by omega, by omega⟩) d1 d2 d3 d4
  rw [oV] at K
  exact C_digest C hD.1 hM (by decide) (by decide) K P ⟨by omega, by omega⟩ (V_widen (by omega) (by omega) (kk n _ _ (J.mn (by omega))))
end LD
