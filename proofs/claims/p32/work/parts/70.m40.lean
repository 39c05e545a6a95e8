/-! A CHANGE OF THE LAYOUT, both sides -/
theorem LR.cT {N : Int} {L T T' : Mem} {P : Int} (A : LR N L T P) (e : EqT T T') (B : TB N T') : LR N L T' P := by
  obtain ⟨⟨u, R⟩, F, C, V, -⟩ := A
  refine LR.mk ⟨u, R.c (fun _ _ _ _ _ => rfl) e⟩ F C V B
theorem lay_pshM {mu : Mem} {c h : Nat} (n : 0 ≤ mu h 2 ∧ mu h 2 < 4) (hch : c + 49 ≤ h) : lay (pshM mu c h) (c + 2) = lay mu (c + 2) := by
  funext k i
  show (if _ then _ else _) = (if _ then _ else _)
  by_cases z : k ≤ 7
  · rw [if_pos z, if_pos z]; exact pshM_off n (by omega) i
  · rw [if_neg z, if_neg z]
theorem putL_x {mu L : Mem} {b x : Nat} (hx : x < b + 1 ∨ b + 8 < x) (i : Int) : putL mu b L x i = mu x i := if_neg (by omega)
theorem TxR.off {mu mu' : Mem} {t : Nat} {tx : Int → Int} {nt : Int} (A : TxR mu t tx nt) (e : ∀ (x : Nat) (i : Int), x = t ∨ x = t + 1 → mu' x i = mu x i) : TxR mu' t tx nt := by
  unfold TxR
  rw [e _ _ (Or.inl rfl)]
  exact ⟨A.1, A.2.1, fun i h1 h2 => by rw [e _ _ (Or.inr rfl)]; exact A.2.2 i h1 h2⟩
/-- what is pushed stands for what was -/
theorem Inv.psh {N : Int} {mu : Mem} {c h t p b q r : Nat} (O : Od c h t p b q r) (A : Inv N mu c h t p b r) : RS N (pshM mu c h) c (mu (r + 1)) ∧ Hy N (pshM mu c h) h (pushP (mu (r + 2)) (mu (r + 1)) (mu r 4)) (min (mu r 4 + 1) 4) ∧ TxR (pshM mu c h) t (mu (r + 5)) (mu r 6) ∧
    (0 ≤ pshM mu c h t 5 ∧ pshM mu c h t 5 ≤ 8) ∧ BA N (rowsC c h b) (pshM mu c h) ∧ R32 (pshM mu c h) ∧ ∀ (x : Nat) (i : Int), x < h ∨ h + 198 ≤ x → pshM mu c h x i = mu x i := by
  obtain ⟨o1, o2, o3, o4, o5, o6⟩ := O
  obtain ⟨A, R⟩ := A
  have n := A.hy.nxt
  have cn := A.hy.cnt
  have off : ∀ (x : Nat) (i : Int), x < h ∨ h + 198 ≤ x → pshM mu c h x i = mu x i := fun x i hx => pshM_off n hx i
  refine ⟨A.st.push n o1, A.hy.push A.st o1, A.tt.off fun x i hx => off x i (by omega), ?_, A.ba.push n o1 (by omega), R32_pshM R n (by omega), off⟩
  rw [off _ _ (by omega)]; exact A.kd
/-- the reference's part, behind a class that has done its own -/
theorem Inv.ref {N : Int} {mu mu1 : Mem} {c h t p b q r : Nat} {s' : Int → Int} (O : Od c h t p b q r) (h4 : 0 ≤ mu r 4 ∧ mu r 4 ≤ 4) (A : CR N mu1 c h t p b s' (pushP (mu (r + 2)) (mu (r + 1)) (mu r 4)) (mu (r + 5)) (min (mu r 4 + 1) 4) (mu r 6)) (off : ∀ (x : Nat) (i : Int), r ≤ x → mu1 x i = mu x i) {m : Mem} (R : R32 m)
    (e0 : ∀ (x : Nat) (i : Int), x ≠ r + 1 → ¬ (x = r ∧ 8 ≤ i) → m x i = hdM mu1 r x i) (e1 : ∀ i : Int, 0 ≤ i → i < 1639 → m (r + 1) i = s' i) : Inv N (enM m r) c h t p b r ∧ enM m r r 7 = 0 := by
  refine Inv.fin O A h4 (fun x i hx => ?_) e1 (fun i h1 => ?_) (fun i h1 h2 => ?_) ?_ (fun i h1 h2 => ?_) ?_ R
  · rw [e0 x i (by omega) (by omega), hdM_x mu1 r (by omega)]
  · rw [e0 _ i (by omega) (by omega), hdM_x mu1 r (by omega), off _ _ (by omega)]
  · rw [e0 _ i (by omega) (by omega), hdM_3 mu1 r ⟨h1, h2⟩, off _ _ (by omega)]
  · rw [e0 _ _ (by omega) (by omega), hdM_x mu1 r (by omega), off _ _ (by omega)]
  · rw [e0 _ i (by omega) (by omega), hdM_x mu1 r (by omega), off _ _ (by omega)]
  · rw [e0 _ _ (by omega) (by omega), hdM_x mu1 r (by omega), off _ _ (by omega)]
theorem stlM_x (m : Mem) (c : Nat) {p x : Nat} (hx : x < p ∨ p + 14 ≤ x) (i : Int) : stlM m p c x i = m x i := putK_off hx i
/-- the class's part of a change of the layout -/
theorem Inv.cls {N M : Int} {mu : Mem} {c h t p b q r : Nat} {L' T' : Mem} (O : Od c h t p b q r) (A : Inv N mu c h t p b r) (hN : 0 ≤ N ∧ N ≤ M ∧ M ≤ 2147483647) (hL : LR M L' T' (mu c 2)) (hB : Bd M L') :
    CR M (stlM (putL (pshM mu c h) (c + 2) L') p c) c h t p b (ptS (mu (r + 1)) T') (pushP (mu (r + 2)) (mu (r + 1)) (mu r 4)) (mu (r + 5)) (min (mu r 4 + 1) 4) (mu r 6) ∧ R32 (stlM (putL (pshM mu c h) (c + 2) L') p c) ∧
      ∀ (x : Nat) (i : Int), r ≤ x → stlM (putL (pshM mu c h) (c + 2) L') p c x i = mu x i := by
  obtain ⟨p1, p2, p3, p4, p5, p6, p7⟩ := A.psh O
  have e2 : pshM mu c h c 2 = mu c 2 := p7 _ _ (by have := O.1; omega)
  have O' := O
  obtain ⟨o1, o2, o3, o4, o5, o6⟩ := O'
  have st : RS M (putL (pshM mu c h) (c + 2) L') c (ptS (mu (r + 1)) T') := by
    refine p1.lay hN.2.1 ?_ fun i h1 h2 h3 => ptS_x _ _ h3
    rw [e2]
    exact hL.cT (trS_ptS _ _) (hL.tb.pt _)
  have := CR.settle O st ((p2.mono hN.2.1).off (fun x i h1 h2 => putL_x (by omega) i) (fun _ _ _ => rfl)) (p3.off fun x i hx => putL_x (by omega) i) (by rw [putL_x (by omega)]; exact p4) ((p5.mono hN.2.1).putL hB) (R32_putL p6 (hB.r32 hN.2.2))
  refine ⟨this.1, this.2, fun x i hx => ?_⟩
  rw [stlM_x _ _ (by omega), putL_x (by omega), p7 _ _ (by omega)]
/-- a change of the layout -/
theorem Inv.mut {N M : Int} {mu : Mem} {c h t p b q r : Nat} {L' T' : Mem} {v : Int} (O : Od c h t p b q r) (A : Inv N mu c h t p b r) (hN : 0 ≤ N ∧ N ≤ M ∧ M ≤ 2147483647) (hL : LR M L' T' (mu c 2)) (hB : Bd M L') (hv : -2147483648 ≤ v ∧ v ≤ 2147483647) :
    Inv M (enM (ptT (up (hdM (stlM (putL (pshM mu c h) (c + 2) L') p c) r) r 19 v) r T') r) c h t p b r ∧ enM (ptT (up (hdM (stlM (putL (pshM mu c h) (c + 2) L') p c) r) r 19 v) r T') r r 7 = 0 := by
  obtain ⟨c1, c2, c3⟩ := A.cls O hN hL hB
  refine Inv.ref O A.1.hy.cnt.2 c1 c3 (R32_ptT (R32_up (hdM_R c2 r) _ _ hv) hL.tb hN.2.2) (fun x i h1 h2 => ?_) (fun i h1 h2 => ?_)
  · rw [ptT_x _ _ _ h1, up_e, if_neg (by omega)]
  · rw [ptT_1]
    unfold ptS
    split
    · rfl
    · rw [up_a _ _ _ _ (by omega), hdM_x _ r (by omega), c3 _ _ (by omega)]
/-- the same without a value to keep -/
theorem Inv.mut0 {N M : Int} {mu : Mem} {c h t p b q r : Nat} {L' T' : Mem} (O : Od c h t p b q r) (A : Inv N mu c h t p b r) (hN : 0 ≤ N ∧ N ≤ M ∧ M ≤ 2147483647) (hL : LR M L' T' (mu c 2)) (hB : Bd M L') :
    Inv M (enM (ptT (hdM (stlM (putL (pshM mu c h) (c + 2) L') p c) r) r T') r) c h t p b r ∧ enM (ptT (hdM (stlM (putL (pshM mu c h) (c + 2) L') p c) r) r T') r r 7 = 0 := by
  obtain ⟨c1, c2, c3⟩ := A.cls O hN hL hB
  refine Inv.ref O A.1.hy.cnt.2 c1 c3 (R32_ptT (hdM_R c2 r) hL.tb hN.2.2) (fun x i h1 h2 => ?_) (fun i h1 h2 => ?_)
  · rw [ptT_x _ _ _ h1]
  · rw [ptT_1]
    unfold ptS
    split
    · rfl
    · rw [hdM_x _ r (by omega), c3 _ _ (by omega)]
