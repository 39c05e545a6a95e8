/-! THE OPERATIONS: the class's answer is the reference's, the invariant is kept; or both refuse -/
def Rn (G : Gx) (S : Sh) (y : MethodName) (ws : List Cond) (f : Nat) (av : List Value) (m m' : Mem) (v : Int) : Prop := ∀ (l : Launch) (n : Nat) (la : Lam), Ct G l y ws f 0 0 av S n m la (Dt (some (.int (I32 v))) S n m' la)
theorem Rn.v {G : Gx} {S : Sh} {y : MethodName} {ws : List Cond} {f : Nat} {av : List Value} {m m' : Mem} {v w : Int} (h : Rn G S y ws f av m m' v) (e : v = w) : Rn G S y ws f av m m' w := e ▸ h
theorem Inv.mn {N M : Int} {mu : Mem} {c h t p b r : Nat} (A : Inv N mu c h t p b r) (h9 : N ≤ M) : Inv M mu c h t p b r := ⟨A.1.mono h9, A.2⟩
theorem cd_1 {f k : Int} (h : k = f) (b : k = 0 ∨ k = 1) : (f = 0 ∧ k = 0) ∨ (f = 1 ∧ k = 1) := by omega
theorem cd_12 {f k : Int} (h : k = f) (b : k = 0 ∨ k = 1 ∨ k = 2) : (f = 0 ∧ k = 0) ∨ (f = 1 ∧ k = 1) ∨ (f = 2 ∧ k = 2) := by omega
theorem cd_123 {f k : Int} (h : k = f) (b : k = 0 ∨ k = 1 ∨ k = 2 ∨ k = 3) : (f = 0 ∧ k = 0) ∨ (f = 1 ∧ k = 1) ∨ (f = 2 ∧ k = 2) ∨ (f = 3 ∧ k = 3) := by omega
theorem cd_23 {f k : Int} (h : (if k = 1 then 2 else if k = 2 then 3 else k) = f) (b : k = 0 ∨ k = 1 ∨ k = 2) : (f = 0 ∧ k = 0) ∨ (f = 2 ∧ k = 1) ∨ (f = 3 ∧ k = 2) := by
  rcases b with b | b | b <;> subst b <;> simp at h <;> omega
theorem cd_13 {f k : Int} (h : (if k = 0 then 0 else if k = 1 then 1 else 3) = f) (b : k = 0 ∨ k = 1 ∨ k = 2) : (f = 0 ∧ k = 0) ∨ (f = 1 ∧ k = 1) ∨ (f = 3 ∧ k = 2) := by
  rcases b with b | b | b <;> subst b <;> simp at h <;> omega
theorem cd_13b {f k : Int} (h : (if k = 2 then 3 else k) = f) (b : k = 0 ∨ k = 1 ∨ k = 2) : (f = 0 ∧ k = 0) ∨ (f = 1 ∧ k = 1) ∨ (f = 3 ∧ k = 2) := by
  rcases b with b | b | b <;> subst b <;> simp at h <;> omega
theorem cd_132 {f k : Int} (h : (if k = 2 then 3 else if k = 3 then 2 else k) = f) (b : k = 0 ∨ k = 1 ∨ k = 2 ∨ k = 3) : (f = 0 ∧ k = 0) ∨ (f = 1 ∧ k = 1) ∨ (f = 3 ∧ k = 2) ∨ (f = 2 ∧ k = 3) := by
  rcases b with b | b | b | b <;> subst b <;> simp at h <;> omega
theorem cd_2 {f k : Int} (h : (if k = 1 then 2 else k) = f) (b : k = 0 ∨ k = 1) : (f = 0 ∧ k = 0) ∨ (f = 2 ∧ k = 1) := by
  rcases b with b | b <;> subst b <;> simp at h <;> omega
section OPS
variable {G : Gx} {S : Sh} {mu : Mem} {a c h t p b q r : Nat} {N : Int}
theorem Inv.w0 (A : Inv N mu c h t p b r) (hN : 1000000 ≤ N ∧ N ≤ 8000000) : Wo mu c h t p := A.1.wo ⟨by omega, by omega⟩ A.2
theorem cs_addPane (A : Inv N mu c h t p b r) (x1 x2 : Int) : (fnF mu c x1 x2 = 0 ∧ adF (mu (r + 1) 2) x1 x2 = 0) ∨ (fnF mu c x1 x2 = 2 ∧ adF (mu (r + 1) 2) x1 x2 = 1) ∨ (fnF mu c x1 x2 = 3 ∧ adF (mu (r + 1) 2) x1 x2 = 2) :=
  cd_23 (O_add_f A x1 x2) (by unfold adF; (repeat' split) <;> omega)
theorem cs_setLeast (A : Inv N mu c h t p b r) (x1 x2 x3 : Int) : (slF mu c x1 x2 x3 = 0 ∧ slF9 (mu (r + 1) 2) x1 x2 x3 = 0) ∨ (slF mu c x1 x2 x3 = 1 ∧ slF9 (mu (r + 1) 2) x1 x2 x3 = 1) ∨ (slF mu c x1 x2 x3 = 2 ∧ slF9 (mu (r + 1) 2) x1 x2 x3 = 2) :=
  cd_12 (O_least_f A x1 x2 x3) (by unfold slF9; (repeat' split) <;> omega)
theorem cs_dock (A : Inv N mu c h t p b r) (x1 x2 x3 : Int) : (fdF mu c x1 x2 x3 = 0 ∧ mcF (trT mu r) (mu (r + 1) 2) x1 x2 x3 = 0) ∨ (fdF mu c x1 x2 x3 = 1 ∧ mcF (trT mu r) (mu (r + 1) 2) x1 x2 x3 = 1) ∨ (fdF mu c x1 x2 x3 = 2 ∧ mcF (trT mu r) (mu (r + 1) 2) x1 x2 x3 = 2) ∨ (fdF mu c x1 x2 x3 = 3 ∧ mcF (trT mu r) (mu (r + 1) 2) x1 x2 x3 = 3) :=
  cd_123 (O_dock_f A x1 x2 x3) (by unfold mcF; (repeat' split) <;> omega)
theorem cs_dockAtEdge (A : Inv N mu c h t p b r) (x1 x2 : Int) : (fgF mu c x1 x2 = 0 ∧ egF (mu (r + 1) 2) x1 x2 = 0) ∨ (fgF mu c x1 x2 = 1 ∧ egF (mu (r + 1) 2) x1 x2 = 1) ∨ (fgF mu c x1 x2 = 2 ∧ egF (mu (r + 1) 2) x1 x2 = 2) :=
  cd_12 (O_edge_f A x1 x2) (by unfold egF; (repeat' split) <;> omega)
theorem cs_floatAt (A : Inv N mu c h t p b r) (x1 x2 x3 x4 x5 : Int) : (fflF mu c x1 x2 x3 x4 x5 = 0 ∧ flF9 (mu (r + 1) 2) x1 x2 x3 x4 x5 = 0) ∨ (fflF mu c x1 x2 x3 x4 x5 = 1 ∧ flF9 (mu (r + 1) 2) x1 x2 x3 x4 x5 = 1) ∨ (fflF mu c x1 x2 x3 x4 x5 = 2 ∧ flF9 (mu (r + 1) 2) x1 x2 x3 x4 x5 = 2) :=
  cd_12 (O_float_f A x1 x2 x3 x4 x5) (by unfold flF9; (repeat' split) <;> omega)
theorem cs_raise (A : Inv N mu c h t p b r) (x1 : Int) : (faF mu c x1 = 0 ∧ rzF (trT mu r) (mu (r + 1) 2) x1 = 0) ∨ (faF mu c x1 = 1 ∧ rzF (trT mu r) (mu (r + 1) 2) x1 = 1) ∨ (faF mu c x1 = 3 ∧ rzF (trT mu r) (mu (r + 1) 2) x1 = 2) :=
  cd_13 (O_raise_f A x1) (by unfold rzF; (repeat' split) <;> omega)
theorem cs_close (A : Inv N mu c h t p b r) (x1 : Int) : (fpF mu c x1 = 0 ∧ clF (mu (r + 1) 2) x1 = 0) ∨ (fpF mu c x1 = 1 ∧ clF (mu (r + 1) 2) x1 = 1) :=
  cd_1 (O_close_f A x1) (by unfold clF; (repeat' split) <;> omega)
theorem cs_activate (A : Inv N mu c h t p b r) (x1 : Int) : (foF mu c x1 = 0 ∧ avF (trT mu r) (mu (r + 1) 2) x1 = 0) ∨ (foF mu c x1 = 1 ∧ avF (trT mu r) (mu (r + 1) 2) x1 = 1) ∨ (foF mu c x1 = 3 ∧ avF (trT mu r) (mu (r + 1) 2) x1 = 2) :=
  cd_13b (O_active_f A x1) (by unfold avF; (repeat' split) <;> omega)
theorem cs_moveTab (A : Inv N mu c h t p b r) (x1 x2 : Int) : (fmF mu c x1 x2 = 0 ∧ mtF (trT mu r) (mu (r + 1) 2) x1 x2 = 0) ∨ (fmF mu c x1 x2 = 1 ∧ mtF (trT mu r) (mu (r + 1) 2) x1 x2 = 1) ∨ (fmF mu c x1 x2 = 3 ∧ mtF (trT mu r) (mu (r + 1) 2) x1 x2 = 2) ∨ (fmF mu c x1 x2 = 2 ∧ mtF (trT mu r) (mu (r + 1) 2) x1 x2 = 3) :=
  cd_132 (O_move_f A x1 x2) (by unfold mtF; (repeat' split) <;> omega)
theorem cs_setShare (A : Inv N mu c h t p b r) (x1 x2 : Int) : (fshF mu c x1 x2 = 0 ∧ wgF (trT mu r) (mu (r + 1) 2) x1 x2 = 0) ∨ (fshF mu c x1 x2 = 1 ∧ wgF (trT mu r) (mu (r + 1) 2) x1 x2 = 1) ∨ (fshF mu c x1 x2 = 2 ∧ wgF (trT mu r) (mu (r + 1) 2) x1 x2 = 2) ∨ (fshF mu c x1 x2 = 3 ∧ wgF (trT mu r) (mu (r + 1) 2) x1 x2 = 3) :=
  cd_123 (O_share_f A x1 x2) (by unfold wgF; (repeat' split) <;> omega)
theorem cs_save (A : Inv N mu c h t p b r) (x1 : Int) : (frF x1 0 3 = 0 ∧ svF x1 = 0) ∨ (frF x1 0 3 = 2 ∧ svF x1 = 1) :=
  cd_2 (O_save_f x1) (by unfold svF; (repeat' split) <;> omega)
theorem cs_bringBack (A : Inv N mu c h t p b r) (x1 : Int) : (flF8 mu c x1 = 0 ∧ brF (hdM mu r) r x1 = 0) ∨ (flF8 mu c x1 = 2 ∧ brF (hdM mu r) r x1 = 1) ∨ (flF8 mu c x1 = 3 ∧ brF (hdM mu r) r x1 = 2) :=
  cd_23 (O_back_f A x1) (by unfold brF; (repeat' split) <;> omega)
theorem cs_type (A : Inv N mu c h t p b r) (x1 : Int) : (ftyF mu t x1 = 0 ∧ tyF9 (mu r 6) x1 = 0) ∨ (ftyF mu t x1 = 2 ∧ tyF9 (mu r 6) x1 = 1) ∨ (ftyF mu t x1 = 3 ∧ tyF9 (mu r 6) x1 = 2) :=
  cd_23 (O_type_f A x1) (by unfold tyF9; (repeat' split) <;> omega)
theorem cs_tab (A : Inv N mu c h t p b r) (x1 x2 : Int) : (ftbF mu c x1 x2 = 0 ∧ tbF9 (mu (r + 1) 2) x1 x2 = 0) ∨ (ftbF mu c x1 x2 = 1 ∧ tbF9 (mu (r + 1) 2) x1 x2 = 1) ∨ (ftbF mu c x1 x2 = 2 ∧ tbF9 (mu (r + 1) 2) x1 x2 = 2) :=
  cd_12 (O_tab_f A x1 x2) (by unfold tbF9; (repeat' split) <;> omega)
theorem cs_pane (A : Inv N mu c h t p b r) (x1 x2 : Int) : (ppF mu c x1 x2 = 0 ∧ pnF9 (mu (r + 1) 2) x1 x2 = 0) ∨ (ppF mu c x1 x2 = 1 ∧ pnF9 (mu (r + 1) 2) x1 x2 = 1) ∨ (ppF mu c x1 x2 = 2 ∧ pnF9 (mu (r + 1) 2) x1 x2 = 2) :=
  cd_12 (O_pane_f A x1 x2) (by unfold pnF9; (repeat' split) <;> omega)
theorem cs_split (A : Inv N mu c h t p b r) (x1 x2 x3 : Int) : (fspF mu c x1 x2 x3 = 0 ∧ spF9 (mu (r + 1) 2) x1 x2 x3 = 0) ∨ (fspF mu c x1 x2 x3 = 1 ∧ spF9 (mu (r + 1) 2) x1 x2 x3 = 1) ∨ (fspF mu c x1 x2 x3 = 2 ∧ spF9 (mu (r + 1) 2) x1 x2 x3 = 2) :=
  cd_12 (O_split_f A x1 x2 x3) (by unfold spF9; (repeat' split) <;> omega)
theorem cs_cellsIf (A : Inv N mu c h t p b r) (x1 x2 x3 : Int) : (fdF mu c x1 x2 x3 = 0 ∧ mcF (trT mu r) (mu (r + 1) 2) x1 x2 x3 = 0) ∨ (fdF mu c x1 x2 x3 = 1 ∧ mcF (trT mu r) (mu (r + 1) 2) x1 x2 x3 = 1) ∨ (fdF mu c x1 x2 x3 = 2 ∧ mcF (trT mu r) (mu (r + 1) 2) x1 x2 x3 = 2) ∨ (fdF mu c x1 x2 x3 = 3 ∧ mcF (trT mu r) (mu (r + 1) 2) x1 x2 x3 = 3) :=
  cd_123 (O_dock_f A x1 x2 x3) (by unfold mcF; (repeat' split) <;> omega)
theorem cs_bestSide (A : Inv N mu c h t p b r) (x1 x2 : Int) : (fdF mu c x1 x2 0 = 0 ∧ bsF9 (trT mu r) (mu (r + 1) 2) x1 x2 = 0) ∨ (fdF mu c x1 x2 0 = 1 ∧ bsF9 (trT mu r) (mu (r + 1) 2) x1 x2 = 1) ∨ (fdF mu c x1 x2 0 = 2 ∧ bsF9 (trT mu r) (mu (r + 1) 2) x1 x2 = 2) ∨ (fdF mu c x1 x2 0 = 3 ∧ bsF9 (trT mu r) (mu (r + 1) 2) x1 x2 = 3) :=
  cd_123 (O_best_f A x1 x2) (by unfold bsF9; (repeat' split) <;> omega)
theorem gq_addPane (hG : GP G) (hD : DoS S a c h t p b q) (hM : MoS S r) (O : Od c h t p b q r) (A : Inv N mu c h t p b r) (hN : 1000000 ≤ N ∧ N ≤ 8000000) {x1 x2 : Int} (b1 : -2147483648 ≤ x1 ∧ x1 ≤ 2147483647) (b2 : -2147483648 ≤ x2 ∧ x2 ≤ 2147483647) (hf : fnF mu c x1 x2 = 0) : ∃ (mu1 mu2 : Mem) (V : Int), Rn G S yX8_addPane wsX8_addPane 6 [.ref a, .int (I32 x1), .int (I32 x2)] mu mu1 V ∧ Rn G S yX9_addPane wsX9_addPane 3 [.ref r, .int (I32 x1), .int (I32 x2)] mu1 mu2 V ∧ mu2 r 7 = 0 ∧ Inv (N + 3000) mu2 c h t p b r := by
  have W := A.w0 hN
  have K : Rn G S yX8_addPane wsX8_addPane 6 [.ref a, .int (I32 x1), .int (I32 x2)] mu (stlM (apM (pshM mu c h) c x1 x2) p c) _ := fun l n la => k_addPane hG hD W b1 b2 hf
  obtain ⟨mu1, e1⟩ : ∃ m : Mem, m = stlM (apM (pshM mu c h) c x1 x2) p c := ⟨_, rfl⟩
  rw [← e1] at K
  obtain ⟨oV, oP, W1, J, e7⟩ := O_add O A ⟨by omega, by omega⟩ hf e1
  have cs := cs_addPane A x1 x2
  have f9 : adF (mu1 (r + 1) 2) x1 x2 = 0 := by
    rw [oP]
    omega
  have P : Rn G S yX9_addPane wsX9_addPane 3 [.ref r, .int (I32 x1), .int (I32 x2)] mu1 _ _ := fun l n la => p_addPane hG hM W1 b1 b2
  rw [f9, if_pos (rfl : (0 : Int) = 0), dnA_0, dnM_0] at P
  exact ⟨_, _, _, K, P.v oV.symm, e7, J.mn (by omega)⟩
theorem hq_addPane (hG : GP G) (hD : DoS S a c h t p b q) (hM : MoS S r) (O : Od c h t p b q r) (A : Inv N mu c h t p b r) (hN : 1000000 ≤ N ∧ N ≤ 8000000) {x1 x2 : Int} (b1 : -2147483648 ≤ x1 ∧ x1 ≤ 2147483647) (b2 : -2147483648 ≤ x2 ∧ x2 ≤ 2147483647) (hz : ¬ fnF mu c x1 x2 = 0) : ∃ (k : Int) (mu2 : Mem) (V : Int), ((fnF mu c x1 x2 = 0 ∧ k = 0) ∨ (fnF mu c x1 x2 = 2 ∧ k = 1) ∨ (fnF mu c x1 x2 = 3 ∧ k = 2)) ∧ Rn G S yX9_addPane wsX9_addPane 3 [.ref r, .int (I32 x1), .int (I32 x2)] mu mu2 V ∧ mu2 r 7 = k ∧ Inv (N + 3000) mu2 c h t p b r := by
  have cs := cs_addPane A x1 x2
  have W1 := A.mw ⟨by omega, by omega⟩
  have k0 : ¬ adF (mu (r + 1) 2) x1 x2 = 0 := by omega
  have P : Rn G S yX9_addPane wsX9_addPane 3 [.ref r, .int (I32 x1), .int (I32 x2)] mu _ _ := fun l n la => p_addPane hG hM W1 b1 b2
  rw [if_neg k0] at P
  have J := A.no O (k := adF (mu (r + 1) 2) x1 x2) ⟨by omega, by omega⟩
  exact ⟨_, _, _, cs, P, J.2, J.1.mn (by omega)⟩
theorem gq_dock (hG : GP G) (hD : DoS S a c h t p b q) (hM : MoS S r) (O : Od c h t p b q r) (A : Inv N mu c h t p b r) (hN : 1000000 ≤ N ∧ N ≤ 8000000) {x1 x2 x3 : Int} (b1 : -2147483648 ≤ x1 ∧ x1 ≤ 2147483647) (b2 : -2147483648 ≤ x2 ∧ x2 ≤ 2147483647) (b3 : -2147483648 ≤ x3 ∧ x3 ≤ 2147483647) (hf : fdF mu c x1 x2 x3 = 0) : ∃ (mu1 mu2 : Mem) (V : Int), Rn G S yX8_dock wsX8_dock 6 [.ref a, .int (I32 x1), .int (I32 x2), .int (I32 x3)] mu mu1 V ∧ Rn G S yX9_dock wsX9_dock 6 [.ref r, .int (I32 x1), .int (I32 x2), .int (I32 x3)] mu1 mu2 V ∧ mu2 r 7 = 0 ∧ Inv (N + 3000) mu2 c h t p b r := by
  have W := A.w0 hN
  have K : Rn G S yX8_dock wsX8_dock 6 [.ref a, .int (I32 x1), .int (I32 x2), .int (I32 x3)] mu (stlM (putL (pshM mu c h) (c + 2) (dkF (lay (pshM mu c h) (c + 2)) x1 x2 x3)) p c) _ := fun l n la => k_dock hG hD W b1 b2 b3 hf
  obtain ⟨mu1, e1⟩ : ∃ m : Mem, m = stlM (putL (pshM mu c h) (c + 2) (dkF (lay (pshM mu c h) (c + 2)) x1 x2 x3)) p c := ⟨_, rfl⟩
  rw [← e1] at K
  obtain ⟨o1, oV, oT, oP, W1, J, e7⟩ := O_dock O A ⟨by omega, by omega⟩ hf e1
  have cs := cs_dock A x1 x2 x3
  have f9 : mcF (trT mu1 r) (mu1 (r + 1) 2) x1 x2 x3 = 0 := by
    rw [oT, oP]
    omega
  have P : Rn G S yX9_dock wsX9_dock 6 [.ref r, .int (I32 x1), .int (I32 x2), .int (I32 x3)] mu1 _ _ := fun l n la => p_dock hG hM W1 b1 b2 b3 (fun _ => o1)
  rw [f9, if_pos (rfl : (0 : Int) = 0), dnA_0, dnM_0] at P
  exact ⟨_, _, _, K, P.v ((pt_r.trans (up_s _ _ _ _)).trans oV.symm), e7, J.mn (by omega)⟩
theorem hq_dock (hG : GP G) (hD : DoS S a c h t p b q) (hM : MoS S r) (O : Od c h t p b q r) (A : Inv N mu c h t p b r) (hN : 1000000 ≤ N ∧ N ≤ 8000000) {x1 x2 x3 : Int} (b1 : -2147483648 ≤ x1 ∧ x1 ≤ 2147483647) (b2 : -2147483648 ≤ x2 ∧ x2 ≤ 2147483647) (b3 : -2147483648 ≤ x3 ∧ x3 ≤ 2147483647) (hz : ¬ fdF mu c x1 x2 x3 = 0) : ∃ (k : Int) (mu2 : Mem) (V : Int), ((fdF mu c x1 x2 x3 = 0 ∧ k = 0) ∨ (fdF mu c x1 x2 x3 = 1 ∧ k = 1) ∨ (fdF mu c x1 x2 x3 = 2 ∧ k = 2) ∨ (fdF mu c x1 x2 x3 = 3 ∧ k = 3)) ∧ Rn G S yX9_dock wsX9_dock 6 [.ref r, .int (I32 x1), .int (I32 x2), .int (I32 x3)] mu mu2 V ∧ mu2 r 7 = k ∧ Inv (N + 3000) mu2 c h t p b r := by
  have cs := cs_dock A x1 x2 x3
  have W1 := A.mw ⟨by omega, by omega⟩
  have k0 : ¬ mcF (trT mu r) (mu (r + 1) 2) x1 x2 x3 = 0 := by omega
  have P : Rn G S yX9_dock wsX9_dock 6 [.ref r, .int (I32 x1), .int (I32 x2), .int (I32 x3)] mu _ _ := fun l n la => p_dock hG hM W1 b1 b2 b3 (fun h9 => absurd h9 k0)
  rw [if_neg k0] at P
  have J := A.no O (k := mcF (trT mu r) (mu (r + 1) 2) x1 x2 x3) ⟨by omega, by omega⟩
  exact ⟨_, _, _, cs, P, J.2, J.1.mn (by omega)⟩
theorem gq_dockAtEdge (hG : GP G) (hD : DoS S a c h t p b q) (hM : MoS S r) (O : Od c h t p b q r) (A : Inv N mu c h t p b r) (hN : 1000000 ≤ N ∧ N ≤ 8000000) {x1 x2 : Int} (b1 : -2147483648 ≤ x1 ∧ x1 ≤ 2147483647) (b2 : -2147483648 ≤ x2 ∧ x2 ≤ 2147483647) (hf : fgF mu c x1 x2 = 0) : ∃ (mu1 mu2 : Mem) (V : Int), Rn G S yX8_dockAtEdge wsX8_dockAtEdge 6 [.ref a, .int (I32 x1), .int (I32 x2)] mu mu1 V ∧ Rn G S yX9_dockAtEdge wsX9_dockAtEdge 5 [.ref r, .int (I32 x1), .int (I32 x2)] mu1 mu2 V ∧ mu2 r 7 = 0 ∧ Inv (N + 3000) mu2 c h t p b r := by
  have W := A.w0 hN
  have K : Rn G S yX8_dockAtEdge wsX8_dockAtEdge 6 [.ref a, .int (I32 x1), .int (I32 x2)] mu (stlM (putL (pshM mu c h) (c + 2) (dwF (lay (pshM mu c h) (c + 2)) x1 x2)) p c) _ := fun l n la => k_dockAtEdge hG hD W b1 b2 hf
  obtain ⟨mu1, e1⟩ : ∃ m : Mem, m = stlM (putL (pshM mu c h) (c + 2) (dwF (lay (pshM mu c h) (c + 2)) x1 x2)) p c := ⟨_, rfl⟩
  rw [← e1] at K
  obtain ⟨o1, oV, oT, oP, W1, J, e7⟩ := O_edge O A ⟨by omega, by omega⟩ hf e1
  have cs := cs_dockAtEdge A x1 x2
  have f9 : egF (mu1 (r + 1) 2) x1 x2 = 0 := by
    rw [oP]
    omega
  have P : Rn G S yX9_dockAtEdge wsX9_dockAtEdge 5 [.ref r, .int (I32 x1), .int (I32 x2)] mu1 _ _ := fun l n la => p_dockAtEdge hG hM W1 b1 b2 (fun _ => o1)
  rw [f9, if_pos (rfl : (0 : Int) = 0), dnA_0, dnM_0] at P
  exact ⟨_, _, _, K, P.v ((pt_r.trans (up_s _ _ _ _)).trans oV.symm), e7, J.mn (by omega)⟩
theorem hq_dockAtEdge (hG : GP G) (hD : DoS S a c h t p b q) (hM : MoS S r) (O : Od c h t p b q r) (A : Inv N mu c h t p b r) (hN : 1000000 ≤ N ∧ N ≤ 8000000) {x1 x2 : Int} (b1 : -2147483648 ≤ x1 ∧ x1 ≤ 2147483647) (b2 : -2147483648 ≤ x2 ∧ x2 ≤ 2147483647) (hz : ¬ fgF mu c x1 x2 = 0) : ∃ (k : Int) (mu2 : Mem) (V : Int), ((fgF mu c x1 x2 = 0 ∧ k = 0) ∨ (fgF mu c x1 x2 = 1 ∧ k = 1) ∨ (fgF mu c x1 x2 = 2 ∧ k = 2)) ∧ Rn G S yX9_dockAtEdge wsX9_dockAtEdge 5 [.ref r, .int (I32 x1), .int (I32 x2)] mu mu2 V ∧ mu2 r 7 = k ∧ Inv (N + 3000) mu2 c h t p b r := by
  have cs := cs_dockAtEdge A x1 x2
  have W1 := A.mw ⟨by omega, by omega⟩
  have k0 : ¬ egF (mu (r + 1) 2) x1 x2 = 0 := by omega
  have P : Rn G S yX9_dockAtEdge wsX9_dockAtEdge 5 [.ref r, .int (I32 x1), .int (I32 x2)] mu _ _ := fun l n la => p_dockAtEdge hG hM W1 b1 b2 (fun h9 => absurd h9 k0)
  rw [if_neg k0] at P
  have J := A.no O (k := egF (mu (r + 1) 2) x1 x2) ⟨by omega, by omega⟩
  exact ⟨_, _, _, cs, P, J.2, J.1.mn (by omega)⟩
theorem gq_floatAt (hG : GP G) (hD : DoS S a c h t p b q) (hM : MoS S r) (O : Od c h t p b q r) (A : Inv N mu c h t p b r) (hN : 1000000 ≤ N ∧ N ≤ 8000000) {x1 x2 x3 x4 x5 : Int} (b1 : -2147483648 ≤ x1 ∧ x1 ≤ 2147483647) (b2 : -2147483648 ≤ x2 ∧ x2 ≤ 2147483647) (b3 : -2147483648 ≤ x3 ∧ x3 ≤ 2147483647) (b4 : -2147483648 ≤ x4 ∧ x4 ≤ 2147483647) (b5 : -2147483648 ≤ x5 ∧ x5 ≤ 2147483647) (hf : fflF mu c x1 x2 x3 x4 x5 = 0) : ∃ (mu1 mu2 : Mem) (V : Int), Rn G S yX8_floatAt wsX8_floatAt 6 [.ref a, .int (I32 x1), .int (I32 x2), .int (I32 x3), .int (I32 x4), .int (I32 x5)] mu mu1 V ∧ Rn G S yX9_floatAt wsX9_floatAt 5 [.ref r, .int (I32 x1), .int (I32 x2), .int (I32 x3), .int (I32 x4), .int (I32 x5)] mu1 mu2 V ∧ mu2 r 7 = 0 ∧ Inv (N + 3000) mu2 c h t p b r := by
  have W := A.w0 hN
  have K : Rn G S yX8_floatAt wsX8_floatAt 6 [.ref a, .int (I32 x1), .int (I32 x2), .int (I32 x3), .int (I32 x4), .int (I32 x5)] mu (stlM (putL (pshM mu c h) (c + 2) (flF (lay (pshM mu c h) (c + 2)) x1 x2 x3 x4 x5)) p c) _ := fun l n la => k_floatAt hG hD W b1 b2 b3 b4 b5 hf
  obtain ⟨mu1, e1⟩ : ∃ m : Mem, m = stlM (putL (pshM mu c h) (c + 2) (flF (lay (pshM mu c h) (c + 2)) x1 x2 x3 x4 x5)) p c := ⟨_, rfl⟩
  rw [← e1] at K
  obtain ⟨o1, oV, oT, oP, W1, J, e7⟩ := O_float O A ⟨by omega, by omega⟩ hf e1
  have cs := cs_floatAt A x1 x2 x3 x4 x5
  have f9 : flF9 (mu1 (r + 1) 2) x1 x2 x3 x4 x5 = 0 := by
    rw [oP]
    omega
  have P : Rn G S yX9_floatAt wsX9_floatAt 5 [.ref r, .int (I32 x1), .int (I32 x2), .int (I32 x3), .int (I32 x4), .int (I32 x5)] mu1 _ _ := fun l n la => p_floatAt hG hM W1 b1 b2 b3 b4 b5 (fun _ => o1)
  rw [f9, if_pos (rfl : (0 : Int) = 0), dnA_0, dnM_0] at P
  exact ⟨_, _, _, K, P.v ((pt_r.trans (up_s _ _ _ _)).trans oV.symm), e7, J.mn (by omega)⟩
theorem hq_floatAt (hG : GP G) (hD : DoS S a c h t p b q) (hM : MoS S r) (O : Od c h t p b q r) (A : Inv N mu c h t p b r) (hN : 1000000 ≤ N ∧ N ≤ 8000000) {x1 x2 x3 x4 x5 : Int} (b1 : -2147483648 ≤ x1 ∧ x1 ≤ 2147483647) (b2 : -2147483648 ≤ x2 ∧ x2 ≤ 2147483647) (b3 : -2147483648 ≤ x3 ∧ x3 ≤ 2147483647) (b4 : -2147483648 ≤ x4 ∧ x4 ≤ 2147483647) (b5 : -2147483648 ≤ x5 ∧ x5 ≤ 2147483647) (hz : ¬ fflF mu c x1 x2 x3 x4 x5 = 0) : ∃ (k : Int) (mu2 : Mem) (V : Int), ((fflF mu c x1 x2 x3 x4 x5 = 0 ∧ k = 0) ∨ (fflF mu c x1 x2 x3 x4 x5 = 1 ∧ k = 1) ∨ (fflF mu c x1 x2 x3 x4 x5 = 2 ∧ k = 2)) ∧ Rn G S yX9_floatAt wsX9_floatAt 5 [.ref r, .int (I32 x1), .int (I32 x2), .int (I32 x3), .int (I32 x4), .int (I32 x5)] mu mu2 V ∧ mu2 r 7 = k ∧ Inv (N + 3000) mu2 c h t p b r := by
  have cs := cs_floatAt A x1 x2 x3 x4 x5
  have W1 := A.mw ⟨by omega, by omega⟩
  have k0 : ¬ flF9 (mu (r + 1) 2) x1 x2 x3 x4 x5 = 0 := by omega
  have P : Rn G S yX9_floatAt wsX9_floatAt 5 [.ref r, .int (I32 x1), .int (I32 x2), .int (I32 x3), .int (I32 x4), .int (I32 x5)] mu _ _ := fun l n la => p_floatAt hG hM W1 b1 b2 b3 b4 b5 (fun h9 => absurd h9 k0)
  rw [if_neg k0] at P
  have J := A.no O (k := flF9 (mu (r + 1) 2) x1 x2 x3 x4 x5) ⟨by omega, by omega⟩
  exact ⟨_, _, _, cs, P, J.2, J.1.mn (by omega)⟩
theorem gq_close (hG : GP G) (hD : DoS S a c h t p b q) (hM : MoS S r) (O : Od c h t p b q r) (A : Inv N mu c h t p b r) (hN : 1000000 ≤ N ∧ N ≤ 8000000) {x1 : Int} (b1 : -2147483648 ≤ x1 ∧ x1 ≤ 2147483647) (hf : fpF mu c x1 = 0) : ∃ (mu1 mu2 : Mem) (V : Int), Rn G S yX8_close wsX8_close 6 [.ref a, .int (I32 x1)] mu mu1 V ∧ Rn G S yX9_close wsX9_close 5 [.ref r, .int (I32 x1)] mu1 mu2 V ∧ mu2 r 7 = 0 ∧ Inv (N + 3000) mu2 c h t p b r := by
  have W := A.w0 hN
  have K : Rn G S yX8_close wsX8_close 6 [.ref a, .int (I32 x1)] mu (stlM (putL (pshM mu c h) (c + 2) (tkF (lay (pshM mu c h) (c + 2)) x1)) p c) _ := fun l n la => k_close hG hD W b1 hf
  obtain ⟨mu1, e1⟩ : ∃ m : Mem, m = stlM (putL (pshM mu c h) (c + 2) (tkF (lay (pshM mu c h) (c + 2)) x1)) p c := ⟨_, rfl⟩
  rw [← e1] at K
  obtain ⟨o1, oV, oT, oP, W1, J, e7⟩ := O_close O A ⟨by omega, by omega⟩ hf e1
  have cs := cs_close A x1
  have f9 : clF (mu1 (r + 1) 2) x1 = 0 := by
    rw [oP]
    omega
  have P : Rn G S yX9_close wsX9_close 5 [.ref r, .int (I32 x1)] mu1 _ _ := fun l n la => p_close hG hM W1 b1 (fun _ => o1)
  rw [f9, if_pos (rfl : (0 : Int) = 0), dnA_0, dnM_0] at P
  exact ⟨_, _, _, K, P.v ((pt_r.trans (up_s _ _ _ _)).trans oV.symm), e7, J.mn (by omega)⟩
theorem hq_close (hG : GP G) (hD : DoS S a c h t p b q) (hM : MoS S r) (O : Od c h t p b q r) (A : Inv N mu c h t p b r) (hN : 1000000 ≤ N ∧ N ≤ 8000000) {x1 : Int} (b1 : -2147483648 ≤ x1 ∧ x1 ≤ 2147483647) (hz : ¬ fpF mu c x1 = 0) : ∃ (k : Int) (mu2 : Mem) (V : Int), ((fpF mu c x1 = 0 ∧ k = 0) ∨ (fpF mu c x1 = 1 ∧ k = 1)) ∧ Rn G S yX9_close wsX9_close 5 [.ref r, .int (I32 x1)] mu mu2 V ∧ mu2 r 7 = k ∧ Inv (N + 3000) mu2 c h t p b r := by
  have cs := cs_close A x1
  have W1 := A.mw ⟨by omega, by omega⟩
  have k0 : ¬ clF (mu (r + 1) 2) x1 = 0 := by omega
  have P : Rn G S yX9_close wsX9_close 5 [.ref r, .int (I32 x1)] mu _ _ := fun l n la => p_close hG hM W1 b1 (fun h9 => absurd h9 k0)
  rw [if_neg k0] at P
  have J := A.no O (k := clF (mu (r + 1) 2) x1) ⟨by omega, by omega⟩
  exact ⟨_, _, _, cs, P, J.2, J.1.mn (by omega)⟩
theorem gq_setShare (hG : GP G) (hD : DoS S a c h t p b q) (hM : MoS S r) (O : Od c h t p b q r) (A : Inv N mu c h t p b r) (hN : 1000000 ≤ N ∧ N ≤ 8000000) {x1 x2 : Int} (b1 : -2147483648 ≤ x1 ∧ x1 ≤ 2147483647) (b2 : -2147483648 ≤ x2 ∧ x2 ≤ 2147483647) (hf : fshF mu c x1 x2 = 0) : ∃ (mu1 mu2 : Mem) (V : Int), Rn G S yX8_setShare wsX8_setShare 6 [.ref a, .int (I32 x1), .int (I32 x2)] mu mu1 V ∧ Rn G S yX9_setShare wsX9_setShare 3 [.ref r, .int (I32 x1), .int (I32 x2)] mu1 mu2 V ∧ mu2 r 7 = 0 ∧ Inv (N + 3000) mu2 c h t p b r := by
  have W := A.w0 hN
  have K : Rn G S yX8_setShare wsX8_setShare 6 [.ref a, .int (I32 x1), .int (I32 x2)] mu (stlM (putL (pshM mu c h) (c + 2) (sL (lay (pshM mu c h) (c + 2)) 3 (gL (lay (pshM mu c h) (c + 2)) 0 x1) x2)) p c) _ := fun l n la => k_setShare hG hD W b1 b2 hf
  obtain ⟨mu1, e1⟩ : ∃ m : Mem, m = stlM (putL (pshM mu c h) (c + 2) (sL (lay (pshM mu c h) (c + 2)) 3 (gL (lay (pshM mu c h) (c + 2)) 0 x1) x2)) p c := ⟨_, rfl⟩
  rw [← e1] at K
  obtain ⟨oV, oT, oP, W1, J, e7⟩ := O_share O A ⟨by omega, by omega⟩ hf e1
  have cs := cs_setShare A x1 x2
  have f9 : wgF (trT mu1 r) (mu1 (r + 1) 2) x1 x2 = 0 := by
    rw [oT, oP]
    omega
  have P : Rn G S yX9_setShare wsX9_setShare 3 [.ref r, .int (I32 x1), .int (I32 x2)] mu1 _ _ := fun l n la => p_setShare hG hM W1 b1 b2
  rw [f9, if_pos (rfl : (0 : Int) = 0), dnA_0, dnM_0] at P
  exact ⟨_, _, _, K, P.v ((pt_r.trans (up_s _ _ _ _)).trans oV.symm), e7, J.mn (by omega)⟩
theorem hq_setShare (hG : GP G) (hD : DoS S a c h t p b q) (hM : MoS S r) (O : Od c h t p b q r) (A : Inv N mu c h t p b r) (hN : 1000000 ≤ N ∧ N ≤ 8000000) {x1 x2 : Int} (b1 : -2147483648 ≤ x1 ∧ x1 ≤ 2147483647) (b2 : -2147483648 ≤ x2 ∧ x2 ≤ 2147483647) (hz : ¬ fshF mu c x1 x2 = 0) : ∃ (k : Int) (mu2 : Mem) (V : Int), ((fshF mu c x1 x2 = 0 ∧ k = 0) ∨ (fshF mu c x1 x2 = 1 ∧ k = 1) ∨ (fshF mu c x1 x2 = 2 ∧ k = 2) ∨ (fshF mu c x1 x2 = 3 ∧ k = 3)) ∧ Rn G S yX9_setShare wsX9_setShare 3 [.ref r, .int (I32 x1), .int (I32 x2)] mu mu2 V ∧ mu2 r 7 = k ∧ Inv (N + 3000) mu2 c h t p b r := by
  have cs := cs_setShare A x1 x2
  have W1 := A.mw ⟨by omega, by omega⟩
  have k0 : ¬ wgF (trT mu r) (mu (r + 1) 2) x1 x2 = 0 := by omega
  have P : Rn G S yX9_setShare wsX9_setShare 3 [.ref r, .int (I32 x1), .int (I32 x2)] mu _ _ := fun l n la => p_setShare hG hM W1 b1 b2
  rw [if_neg k0] at P
  have J := A.no O (k := wgF (trT mu r) (mu (r + 1) 2) x1 x2) ⟨by omega, by omega⟩
  exact ⟨_, _, _, cs, P, J.2, J.1.mn (by omega)⟩
theorem gq_setLeast (hG : GP G) (hD : DoS S a c h t p b q) (hM : MoS S r) (O : Od c h t p b q r) (A : Inv N mu c h t p b r) (hN : 1000000 ≤ N ∧ N ≤ 8000000) {x1 x2 x3 : Int} (b1 : -2147483648 ≤ x1 ∧ x1 ≤ 2147483647) (b2 : -2147483648 ≤ x2 ∧ x2 ≤ 2147483647) (b3 : -2147483648 ≤ x3 ∧ x3 ≤ 2147483647) (hf : slF mu c x1 x2 x3 = 0) : ∃ (mu1 mu2 : Mem) (V : Int), Rn G S yX8_setLeast wsX8_setLeast 6 [.ref a, .int (I32 x1), .int (I32 x2), .int (I32 x3)] mu mu1 V ∧ Rn G S yX9_setLeast wsX9_setLeast 2 [.ref r, .int (I32 x1), .int (I32 x2), .int (I32 x3)] mu1 mu2 V ∧ mu2 r 7 = 0 ∧ Inv (N + 3000) mu2 c h t p b r := by
  have W := A.w0 hN
  have K : Rn G S yX8_setLeast wsX8_setLeast 6 [.ref a, .int (I32 x1), .int (I32 x2), .int (I32 x3)] mu (stlM (clM (pshM mu c h) c x1 x2 x3) p c) _ := fun l n la => k_setLeast hG hD W b1 b2 b3 hf
  obtain ⟨mu1, e1⟩ : ∃ m : Mem, m = stlM (clM (pshM mu c h) c x1 x2 x3) p c := ⟨_, rfl⟩
  rw [← e1] at K
  obtain ⟨oV, oP, W1, J, e7⟩ := O_least O A ⟨by omega, by omega⟩ hf e1
  have cs := cs_setLeast A x1 x2 x3
  have f9 : slF9 (mu1 (r + 1) 2) x1 x2 x3 = 0 := by
    rw [oP]
    omega
  have P : Rn G S yX9_setLeast wsX9_setLeast 2 [.ref r, .int (I32 x1), .int (I32 x2), .int (I32 x3)] mu1 _ _ := fun l n la => p_setLeast hG hM W1 b1 b2 b3
  rw [if_pos f9, if_pos f9] at P
  exact ⟨_, _, _, K, P.v oV.symm, e7, J.mn (by omega)⟩
theorem hq_setLeast (hG : GP G) (hD : DoS S a c h t p b q) (hM : MoS S r) (O : Od c h t p b q r) (A : Inv N mu c h t p b r) (hN : 1000000 ≤ N ∧ N ≤ 8000000) {x1 x2 x3 : Int} (b1 : -2147483648 ≤ x1 ∧ x1 ≤ 2147483647) (b2 : -2147483648 ≤ x2 ∧ x2 ≤ 2147483647) (b3 : -2147483648 ≤ x3 ∧ x3 ≤ 2147483647) (hz : ¬ slF mu c x1 x2 x3 = 0) : ∃ (k : Int) (mu2 : Mem) (V : Int), ((slF mu c x1 x2 x3 = 0 ∧ k = 0) ∨ (slF mu c x1 x2 x3 = 1 ∧ k = 1) ∨ (slF mu c x1 x2 x3 = 2 ∧ k = 2)) ∧ Rn G S yX9_setLeast wsX9_setLeast 2 [.ref r, .int (I32 x1), .int (I32 x2), .int (I32 x3)] mu mu2 V ∧ mu2 r 7 = k ∧ Inv (N + 3000) mu2 c h t p b r := by
  have cs := cs_setLeast A x1 x2 x3
  have W1 := A.mw ⟨by omega, by omega⟩
  have k0 : ¬ slF9 (mu (r + 1) 2) x1 x2 x3 = 0 := by omega
  have P : Rn G S yX9_setLeast wsX9_setLeast 2 [.ref r, .int (I32 x1), .int (I32 x2), .int (I32 x3)] mu _ _ := fun l n la => p_setLeast hG hM W1 b1 b2 b3
  rw [if_neg k0, if_neg k0] at P
  have J := A.up7 O (k := slF9 (mu (r + 1) 2) x1 x2 x3) ⟨by omega, by omega⟩
  exact ⟨_, _, _, cs, P, J.2, J.1.mn (by omega)⟩
theorem gq_raise (hG : GP G) (hD : DoS S a c h t p b q) (hM : MoS S r) (O : Od c h t p b q r) (A : Inv N mu c h t p b r) (hN : 1000000 ≤ N ∧ N ≤ 8000000) {x1 : Int} (b1 : -2147483648 ≤ x1 ∧ x1 ≤ 2147483647) (hf : faF mu c x1 = 0) : ∃ (mu1 mu2 : Mem) (V : Int), Rn G S yX8_raise wsX8_raise 6 [.ref a, .int (I32 x1)] mu mu1 V ∧ Rn G S yX9_raise wsX9_raise 2 [.ref r, .int (I32 x1)] mu1 mu2 V ∧ mu2 r 7 = 0 ∧ Inv (N + 3000) mu2 c h t p b r := by
  have W := A.w0 hN
  have K : Rn G S yX8_raise wsX8_raise 6 [.ref a, .int (I32 x1)] mu (stlM (putL (pshM mu c h) (c + 2) (raF (lay (pshM mu c h) (c + 2)) (gL (lay (pshM mu c h) (c + 2)) 0 x1))) p c) _ := fun l n la => k_raise hG hD W b1 hf
  obtain ⟨mu1, e1⟩ : ∃ m : Mem, m = stlM (putL (pshM mu c h) (c + 2) (raF (lay (pshM mu c h) (c + 2)) (gL (lay (pshM mu c h) (c + 2)) 0 x1))) p c := ⟨_, rfl⟩
  rw [← e1] at K
  obtain ⟨oV, oT, oP, W1, J, e7⟩ := O_raise O A ⟨by omega, by omega⟩ hf e1
  have cs := cs_raise A x1
  have f9 : rzF (trT mu1 r) (mu1 (r + 1) 2) x1 = 0 := by
    rw [oT, oP]
    omega
  have P : Rn G S yX9_raise wsX9_raise 2 [.ref r, .int (I32 x1)] mu1 _ _ := fun l n la => p_raise hG hM W1 b1
  rw [if_pos f9, if_pos f9] at P
  exact ⟨_, _, _, K, P.v oV.symm, e7, J.mn (by omega)⟩
theorem hq_raise (hG : GP G) (hD : DoS S a c h t p b q) (hM : MoS S r) (O : Od c h t p b q r) (A : Inv N mu c h t p b r) (hN : 1000000 ≤ N ∧ N ≤ 8000000) {x1 : Int} (b1 : -2147483648 ≤ x1 ∧ x1 ≤ 2147483647) (hz : ¬ faF mu c x1 = 0) : ∃ (k : Int) (mu2 : Mem) (V : Int), ((faF mu c x1 = 0 ∧ k = 0) ∨ (faF mu c x1 = 1 ∧ k = 1) ∨ (faF mu c x1 = 3 ∧ k = 2)) ∧ Rn G S yX9_raise wsX9_raise 2 [.ref r, .int (I32 x1)] mu mu2 V ∧ mu2 r 7 = k ∧ Inv (N + 3000) mu2 c h t p b r := by
  have cs := cs_raise A x1
  have W1 := A.mw ⟨by omega, by omega⟩
  have k0 : ¬ rzF (trT mu r) (mu (r + 1) 2) x1 = 0 := by omega
  have P : Rn G S yX9_raise wsX9_raise 2 [.ref r, .int (I32 x1)] mu _ _ := fun l n la => p_raise hG hM W1 b1
  rw [if_neg k0, if_neg k0] at P
  have J := A.up7 O (k := rzF (trT mu r) (mu (r + 1) 2) x1) ⟨by omega, by omega⟩
  exact ⟨_, _, _, cs, P, J.2, J.1.mn (by omega)⟩
theorem gq_activate (hG : GP G) (hD : DoS S a c h t p b q) (hM : MoS S r) (O : Od c h t p b q r) (A : Inv N mu c h t p b r) (hN : 1000000 ≤ N ∧ N ≤ 8000000) {x1 : Int} (b1 : -2147483648 ≤ x1 ∧ x1 ≤ 2147483647) (hf : foF mu c x1 = 0) : ∃ (mu1 mu2 : Mem) (V : Int), Rn G S yX8_activate wsX8_activate 6 [.ref a, .int (I32 x1)] mu mu1 V ∧ Rn G S yX9_activate wsX9_activate 2 [.ref r, .int (I32 x1)] mu1 mu2 V ∧ mu2 r 7 = 0 ∧ Inv (N + 3000) mu2 c h t p b r := by
  have W := A.w0 hN
  have K : Rn G S yX8_activate wsX8_activate 6 [.ref a, .int (I32 x1)] mu (putL (pshM mu c h) (c + 2) (sL (lay (pshM mu c h) (c + 2)) 4 (gL (lay (pshM mu c h) (c + 2)) 0 x1 - 16) x1)) _ := fun l n la => k_activate hG hD W b1 hf
  obtain ⟨mu1, e1⟩ : ∃ m : Mem, m = putL (pshM mu c h) (c + 2) (sL (lay (pshM mu c h) (c + 2)) 4 (gL (lay (pshM mu c h) (c + 2)) 0 x1 - 16) x1) := ⟨_, rfl⟩
  rw [← e1] at K
  obtain ⟨oV, oT, oP, W1, J, e7⟩ := O_active O A ⟨by omega, by omega⟩ hf e1
  have cs := cs_activate A x1
  have f9 : avF (trT mu1 r) (mu1 (r + 1) 2) x1 = 0 := by
    rw [oT, oP]
    omega
  have P : Rn G S yX9_activate wsX9_activate 2 [.ref r, .int (I32 x1)] mu1 _ _ := fun l n la => p_activate hG hM W1 b1
  rw [if_pos f9, if_pos f9] at P
  exact ⟨_, _, _, K, P.v oV.symm, e7, J.mn (by omega)⟩
theorem hq_activate (hG : GP G) (hD : DoS S a c h t p b q) (hM : MoS S r) (O : Od c h t p b q r) (A : Inv N mu c h t p b r) (hN : 1000000 ≤ N ∧ N ≤ 8000000) {x1 : Int} (b1 : -2147483648 ≤ x1 ∧ x1 ≤ 2147483647) (hz : ¬ foF mu c x1 = 0) : ∃ (k : Int) (mu2 : Mem) (V : Int), ((foF mu c x1 = 0 ∧ k = 0) ∨ (foF mu c x1 = 1 ∧ k = 1) ∨ (foF mu c x1 = 3 ∧ k = 2)) ∧ Rn G S yX9_activate wsX9_activate 2 [.ref r, .int (I32 x1)] mu mu2 V ∧ mu2 r 7 = k ∧ Inv (N + 3000) mu2 c h t p b r := by
  have cs := cs_activate A x1
  have W1 := A.mw ⟨by omega, by omega⟩
  have k0 : ¬ avF (trT mu r) (mu (r + 1) 2) x1 = 0 := by omega
  have P : Rn G S yX9_activate wsX9_activate 2 [.ref r, .int (I32 x1)] mu _ _ := fun l n la => p_activate hG hM W1 b1
  rw [if_neg k0, if_neg k0] at P
  have J := A.up7 O (k := avF (trT mu r) (mu (r + 1) 2) x1) ⟨by omega, by omega⟩
  exact ⟨_, _, _, cs, P, J.2, J.1.mn (by omega)⟩
theorem gq_moveTab (hG : GP G) (hD : DoS S a c h t p b q) (hM : MoS S r) (O : Od c h t p b q r) (A : Inv N mu c h t p b r) (hN : 1000000 ≤ N ∧ N ≤ 8000000) {x1 x2 : Int} (b1 : -2147483648 ≤ x1 ∧ x1 ≤ 2147483647) (b2 : -2147483648 ≤ x2 ∧ x2 ≤ 2147483647) (hf : fmF mu c x1 x2 = 0) : ∃ (mu1 mu2 : Mem) (V : Int), Rn G S yX8_moveTab wsX8_moveTab 6 [.ref a, .int (I32 x1), .int (I32 x2)] mu mu1 V ∧ Rn G S yX9_moveTab wsX9_moveTab 2 [.ref r, .int (I32 x1), .int (I32 x2)] mu1 mu2 V ∧ mu2 r 7 = 0 ∧ Inv (N + 3000) mu2 c h t p b r := by
  have W := A.w0 hN
  have K : Rn G S yX8_moveTab wsX8_moveTab 6 [.ref a, .int (I32 x1), .int (I32 x2)] mu (stlM (putL (pshM mu c h) (c + 2) (mvF (lay (pshM mu c h) (c + 2)) x1 x2)) p c) _ := fun l n la => k_moveTab hG hD W b1 b2 hf
  obtain ⟨mu1, e1⟩ : ∃ m : Mem, m = stlM (putL (pshM mu c h) (c + 2) (mvF (lay (pshM mu c h) (c + 2)) x1 x2)) p c := ⟨_, rfl⟩
  rw [← e1] at K
  obtain ⟨oV, oT, oP, W1, J, e7⟩ := O_move O A ⟨by omega, by omega⟩ hf e1
  have cs := cs_moveTab A x1 x2
  have f9 : mtF (trT mu1 r) (mu1 (r + 1) 2) x1 x2 = 0 := by
    rw [oT, oP]
    omega
  have P : Rn G S yX9_moveTab wsX9_moveTab 2 [.ref r, .int (I32 x1), .int (I32 x2)] mu1 _ _ := fun l n la => p_moveTab hG hM W1 b1 b2
  rw [if_pos f9, if_pos f9] at P
  exact ⟨_, _, _, K, P.v oV.symm, e7, J.mn (by omega)⟩
theorem hq_moveTab (hG : GP G) (hD : DoS S a c h t p b q) (hM : MoS S r) (O : Od c h t p b q r) (A : Inv N mu c h t p b r) (hN : 1000000 ≤ N ∧ N ≤ 8000000) {x1 x2 : Int} (b1 : -2147483648 ≤ x1 ∧ x1 ≤ 2147483647) (b2 : -2147483648 ≤ x2 ∧ x2 ≤ 2147483647) (hz : ¬ fmF mu c x1 x2 = 0) : ∃ (k : Int) (mu2 : Mem) (V : Int), ((fmF mu c x1 x2 = 0 ∧ k = 0) ∨ (fmF mu c x1 x2 = 1 ∧ k = 1) ∨ (fmF mu c x1 x2 = 3 ∧ k = 2) ∨ (fmF mu c x1 x2 = 2 ∧ k = 3)) ∧ Rn G S yX9_moveTab wsX9_moveTab 2 [.ref r, .int (I32 x1), .int (I32 x2)] mu mu2 V ∧ mu2 r 7 = k ∧ Inv (N + 3000) mu2 c h t p b r := by
  have cs := cs_moveTab A x1 x2
  have W1 := A.mw ⟨by omega, by omega⟩
  have k0 : ¬ mtF (trT mu r) (mu (r + 1) 2) x1 x2 = 0 := by omega
  have P : Rn G S yX9_moveTab wsX9_moveTab 2 [.ref r, .int (I32 x1), .int (I32 x2)] mu _ _ := fun l n la => p_moveTab hG hM W1 b1 b2
  rw [if_neg k0, if_neg k0] at P
  have J := A.up7 O (k := mtF (trT mu r) (mu (r + 1) 2) x1 x2) ⟨by omega, by omega⟩
  exact ⟨_, _, _, cs, P, J.2, J.1.mn (by omega)⟩
theorem gq_type (hG : GP G) (hD : DoS S a c h t p b q) (hM : MoS S r) (O : Od c h t p b q r) (A : Inv N mu c h t p b r) (hN : 1000000 ≤ N ∧ N ≤ 8000000) {x1 : Int} (b1 : -2147483648 ≤ x1 ∧ x1 ≤ 2147483647) (hf : ftyF mu t x1 = 0) : ∃ (mu1 mu2 : Mem) (V : Int), Rn G S yX8_type wsX8_type 2 [.ref a, .int (I32 x1)] mu mu1 V ∧ Rn G S yX9_type wsX9_type 1 [.ref r, .int (I32 x1)] mu1 mu2 V ∧ mu2 r 7 = 0 ∧ Inv (N + 3000) mu2 c h t p b r := by
  have W := A.w0 hN
  have K : Rn G S yX8_type wsX8_type 2 [.ref a, .int (I32 x1)] mu (up (up mu (t + 1) (mu t 2) x1) t 2 (mu t 2 + 1)) _ := fun l n la => k_type hG hD W b1 hf
  obtain ⟨mu1, e1⟩ : ∃ m : Mem, m = up (up mu (t + 1) (mu t 2) x1) t 2 (mu t 2 + 1) := ⟨_, rfl⟩
  rw [← e1] at K
  obtain ⟨oV, oP, W1, J, e7⟩ := O_type O A ⟨by omega, by omega⟩ hf e1
  have cs := cs_type A x1
  have f9 : tyF9 (mu1 r 6) x1 = 0 := by
    rw [oP]
    omega
  have P : Rn G S yX9_type wsX9_type 1 [.ref r, .int (I32 x1)] mu1 _ _ := fun l n la => p_type hG hM W1 b1
  rw [if_pos f9, if_pos f9] at P
  exact ⟨_, _, _, K, P.v oV.symm, e7, J.mn (by omega)⟩
theorem hq_type (hG : GP G) (hD : DoS S a c h t p b q) (hM : MoS S r) (O : Od c h t p b q r) (A : Inv N mu c h t p b r) (hN : 1000000 ≤ N ∧ N ≤ 8000000) {x1 : Int} (b1 : -2147483648 ≤ x1 ∧ x1 ≤ 2147483647) (hz : ¬ ftyF mu t x1 = 0) : ∃ (k : Int) (mu2 : Mem) (V : Int), ((ftyF mu t x1 = 0 ∧ k = 0) ∨ (ftyF mu t x1 = 2 ∧ k = 1) ∨ (ftyF mu t x1 = 3 ∧ k = 2)) ∧ Rn G S yX9_type wsX9_type 1 [.ref r, .int (I32 x1)] mu mu2 V ∧ mu2 r 7 = k ∧ Inv (N + 3000) mu2 c h t p b r := by
  have cs := cs_type A x1
  have W1 := A.mw ⟨by omega, by omega⟩
  have k0 : ¬ tyF9 (mu r 6) x1 = 0 := by omega
  have P : Rn G S yX9_type wsX9_type 1 [.ref r, .int (I32 x1)] mu _ _ := fun l n la => p_type hG hM W1 b1
  rw [if_neg k0, if_neg k0] at P
  have J := A.up7 O (k := tyF9 (mu r 6) x1) ⟨by omega, by omega⟩
  exact ⟨_, _, _, cs, P, J.2, J.1.mn (by omega)⟩
theorem gq_setWindow (hG : GP G) (hD : DoS S a c h t p b q) (hM : MoS S r) (O : Od c h t p b q r) (A : Inv N mu c h t p b r) (hN : 1000000 ≤ N ∧ N ≤ 8000000) {x1 x2 : Int} (b1 : -2147483648 ≤ x1 ∧ x1 ≤ 2147483647) (b2 : -2147483648 ≤ x2 ∧ x2 ≤ 2147483647) (hf : fwF x1 x2 = 0) : ∃ (mu1 mu2 : Mem) (V : Int), Rn G S yX8_setWindow wsX8_setWindow 6 [.ref a, .int (I32 x1), .int (I32 x2)] mu mu1 V ∧ Rn G S yX9_setWindow wsX9_setWindow 2 [.ref r, .int (I32 x1), .int (I32 x2)] mu1 mu2 V ∧ mu2 r 7 = 0 ∧ Inv (N + 3000) mu2 c h t p b r := by
  have W := A.w0 hN
  have K : Rn G S yX8_setWindow wsX8_setWindow 6 [.ref a, .int (I32 x1), .int (I32 x2)] mu (stlM (up (up (pshM mu c h) c 0 x1) c 1 x2) p c) _ := fun l n la => k_setWindow hG hD W b1 b2 hf
  obtain ⟨mu1, e1⟩ : ∃ m : Mem, m = stlM (up (up (pshM mu c h) c 0 x1) c 1 x2) p c := ⟨_, rfl⟩
  rw [← e1] at K
  obtain ⟨oV, W1, J, e7⟩ := O_window O A ⟨by omega, by omega⟩ hf e1
  have P : Rn G S yX9_setWindow wsX9_setWindow 2 [.ref r, .int (I32 x1), .int (I32 x2)] mu1 _ _ := fun l n la => p_setWindow hG hM W1 b1 b2
  rw [if_pos hf, if_pos hf] at P
  exact ⟨_, _, _, K, P.v oV.symm, e7, J.mn (by omega)⟩
theorem hq_setWindow (hG : GP G) (hD : DoS S a c h t p b q) (hM : MoS S r) (O : Od c h t p b q r) (A : Inv N mu c h t p b r) (hN : 1000000 ≤ N ∧ N ≤ 8000000) {x1 x2 : Int} (b1 : -2147483648 ≤ x1 ∧ x1 ≤ 2147483647) (b2 : -2147483648 ≤ x2 ∧ x2 ≤ 2147483647) (hz : ¬ fwF x1 x2 = 0) : ∃ (k : Int) (mu2 : Mem) (V : Int), ((fwF x1 x2 = 0 ∧ k = 0) ∨ (fwF x1 x2 = 2 ∧ k = 1)) ∧ Rn G S yX9_setWindow wsX9_setWindow 2 [.ref r, .int (I32 x1), .int (I32 x2)] mu mu2 V ∧ mu2 r 7 = k ∧ Inv (N + 3000) mu2 c h t p b r := by
  have W1 := A.mw ⟨by omega, by omega⟩
  have bd : fwF x1 x2 = 0 ∨ fwF x1 x2 = 2 := by unfold fwF; (repeat' split) <;> omega
  have P : Rn G S yX9_setWindow wsX9_setWindow 2 [.ref r, .int (I32 x1), .int (I32 x2)] mu _ _ := fun l n la => p_setWindow hG hM W1 b1 b2
  rw [if_neg hz, if_neg hz] at P
  have J := A.up7 O (k := 1) ⟨by omega, by omega⟩
  exact ⟨_, _, _, by omega, P, J.2, J.1.mn (by omega)⟩
theorem gq_save (hG : GP G) (hD : DoS S a c h t p b q) (hM : MoS S r) (O : Od c h t p b q r) (A : Inv N mu c h t p b r) (hN : 1000000 ≤ N ∧ N ≤ 8000000) {x1 : Int} (b1 : -2147483648 ≤ x1 ∧ x1 ≤ 2147483647) (hf : frF x1 0 3 = 0) : ∃ (mu1 mu2 : Mem) (V : Int), Rn G S yX8_save wsX8_save 6 [.ref a, .int (I32 x1)] mu mu1 V ∧ Rn G S yX9_save wsX9_save 3 [.ref r, .int (I32 x1)] mu1 mu2 V ∧ mu2 r 7 = 0 ∧ Inv (N + 3000) mu2 c h t p b r := by
  have W := A.w0 hN
  obtain ⟨j, hj, rfl⟩ : ∃ j : Nat, j < 4 ∧ x1 = (j : Int) := by
    have h9 : 0 ≤ x1 ∧ x1 ≤ 3 := by
      have cs := cs_save A x1
      have k0 : svF x1 = 0 := by omega
      unfold svF at k0
      by_cases z : 0 ≤ x1 ∧ x1 ≤ 3
      · exact z
      · rw [if_neg z] at k0; omega
    exact ⟨x1.toNat, by omega, by omega⟩
  have K : Rn G S yX8_save wsX8_save 6 [.ref a, .int (I32 (j : Int))] mu (kpM (pshM mu c h) c j) _ := fun l n la => k_save hG hD W hj
  obtain ⟨mu1, e1⟩ : ∃ m : Mem, m = kpM (pshM mu c h) c j := ⟨_, rfl⟩
  rw [← e1] at K
  obtain ⟨oV, W1, J, e7⟩ := O_save O A ⟨by omega, by omega⟩ hj e1
  have cs := cs_save A (j : Int)
  have f9 : svF (j : Int) = 0 := by omega
  have P : Rn G S yX9_save wsX9_save 3 [.ref r, .int (I32 (j : Int))] mu1 _ _ := fun l n la => p_save hG hM W1 b1
  rw [f9, if_pos (rfl : (0 : Int) = 0), dnA_0, dnM_0] at P
  exact ⟨_, _, _, K, P.v oV.symm, e7, J.mn (by omega)⟩
theorem hq_save (hG : GP G) (hD : DoS S a c h t p b q) (hM : MoS S r) (O : Od c h t p b q r) (A : Inv N mu c h t p b r) (hN : 1000000 ≤ N ∧ N ≤ 8000000) {x1 : Int} (b1 : -2147483648 ≤ x1 ∧ x1 ≤ 2147483647) (hz : ¬ frF x1 0 3 = 0) : ∃ (k : Int) (mu2 : Mem) (V : Int), ((frF x1 0 3 = 0 ∧ k = 0) ∨ (frF x1 0 3 = 2 ∧ k = 1)) ∧ Rn G S yX9_save wsX9_save 3 [.ref r, .int (I32 x1)] mu mu2 V ∧ mu2 r 7 = k ∧ Inv (N + 3000) mu2 c h t p b r := by
  have cs := cs_save A x1
  have W1 := A.mw ⟨by omega, by omega⟩
  have k0 : ¬ svF x1 = 0 := by omega
  have P : Rn G S yX9_save wsX9_save 3 [.ref r, .int (I32 x1)] mu _ _ := fun l n la => p_save hG hM W1 b1
  rw [if_neg k0] at P
  have J := A.no O (k := svF x1) ⟨by omega, by omega⟩
  exact ⟨_, _, _, cs, P, J.2, J.1.mn (by omega)⟩
theorem gq_bringBack (hG : GP G) (hD : DoS S a c h t p b q) (hM : MoS S r) (O : Od c h t p b q r) (A : Inv N mu c h t p b r) (hN : 1000000 ≤ N ∧ N ≤ 8000000) {x1 : Int} (b1 : -2147483648 ≤ x1 ∧ x1 ≤ 2147483647) (hf : flF8 mu c x1 = 0) : ∃ (mu1 mu2 : Mem) (V : Int), Rn G S yX8_bringBack wsX8_bringBack 6 [.ref a, .int (I32 x1)] mu mu1 V ∧ Rn G S yX9_bringBack wsX9_bringBack 3 [.ref r, .int (I32 x1)] mu1 mu2 V ∧ mu2 r 7 = 0 ∧ Inv (N + 3000) mu2 c h t p b r := by
  have W := A.w0 hN
  obtain ⟨j, hj, rfl⟩ : ∃ j : Nat, j < 4 ∧ x1 = (j : Int) := by
    have h9 : 0 ≤ x1 ∧ x1 ≤ 3 := by
      have cs := cs_bringBack A x1
      have k0 : brF (hdM mu r) r x1 = 0 := by omega
      unfold brF at k0
      by_cases z : 0 ≤ x1 ∧ x1 ≤ 3
      · exact z
      · rw [if_pos z] at k0; omega
    exact ⟨x1.toNat, by omega, by omega⟩
  have K : Rn G S yX8_bringBack wsX8_bringBack 6 [.ref a, .int (I32 (j : Int))] mu (stlM (tpM (pshM mu c h) c j) p c) _ := fun l n la => k_bringBack hG hD W hj (((A.1.bd (by omega)).2.2 j hj).mono (by omega)) hf
  obtain ⟨mu1, e1⟩ : ∃ m : Mem, m = stlM (tpM (pshM mu c h) c j) p c := ⟨_, rfl⟩
  rw [← e1] at K
  obtain ⟨oV, oB, W1, J, e7⟩ := O_back O A ⟨by omega, by omega⟩ hj hf e1
  have cs := cs_bringBack A (j : Int)
  have f9 : brF (hdM mu1 r) r (j : Int) = 0 := by
    rw [oB]
    omega
  have P : Rn G S yX9_bringBack wsX9_bringBack 3 [.ref r, .int (I32 (j : Int))] mu1 _ _ := fun l n la => p_bringBack hG hM W1 b1
  rw [f9, if_pos (rfl : (0 : Int) = 0), dnA_0, dnM_0] at P
  exact ⟨_, _, _, K, P.v oV.symm, e7, J.mn (by omega)⟩
theorem hq_bringBack (hG : GP G) (hD : DoS S a c h t p b q) (hM : MoS S r) (O : Od c h t p b q r) (A : Inv N mu c h t p b r) (hN : 1000000 ≤ N ∧ N ≤ 8000000) {x1 : Int} (b1 : -2147483648 ≤ x1 ∧ x1 ≤ 2147483647) (hz : ¬ flF8 mu c x1 = 0) : ∃ (k : Int) (mu2 : Mem) (V : Int), ((flF8 mu c x1 = 0 ∧ k = 0) ∨ (flF8 mu c x1 = 2 ∧ k = 1) ∨ (flF8 mu c x1 = 3 ∧ k = 2)) ∧ Rn G S yX9_bringBack wsX9_bringBack 3 [.ref r, .int (I32 x1)] mu mu2 V ∧ mu2 r 7 = k ∧ Inv (N + 3000) mu2 c h t p b r := by
  have cs := cs_bringBack A x1
  have W1 := A.mw ⟨by omega, by omega⟩
  have k0 : ¬ brF (hdM mu r) r x1 = 0 := by omega
  have P : Rn G S yX9_bringBack wsX9_bringBack 3 [.ref r, .int (I32 x1)] mu _ _ := fun l n la => p_bringBack hG hM W1 b1
  rw [if_neg k0] at P
  have J := A.no O (k := brF (hdM mu r) r x1) ⟨by omega, by omega⟩
  exact ⟨_, _, _, cs, P, J.2, J.1.mn (by omega)⟩
theorem gq_undo (hG : GP G) (hD : DoS S a c h t p b q) (hM : MoS S r) (O : Od c h t p b q r) (A : Inv N mu c h t p b r) (hN : 1000000 ≤ N ∧ N ≤ 8000000) (hf : fuF mu h = 0) : ∃ (mu1 mu2 : Mem) (V : Int), Rn G S yX8_undo wsX8_undo 6 [.ref a] mu mu1 V ∧ Rn G S yX9_undo wsX9_undo 1 [.ref r] mu1 mu2 V ∧ mu2 r 7 = 0 ∧ Inv (N + 3000) mu2 c h t p b r := by
  have W := A.w0 hN
  have K : Rn G S yX8_undo wsX8_undo 6 [.ref a] mu (stlM (popM mu c h) p c) _ := fun l n la => k_undo hG hD W (fun e he => (A.1.ba.lay (by omega) (fun z hz => Or.inr (Or.inl ⟨by omega, by omega⟩))).mono (by omega)) hf
  obtain ⟨mu1, e1⟩ : ∃ m : Mem, m = stlM (popM mu c h) p c := ⟨_, rfl⟩
  rw [← e1] at K
  obtain ⟨oV, o4, W1, J, e7⟩ := O_undo O A ⟨by omega, by omega⟩ hf e1
  have P : Rn G S yX9_undo wsX9_undo 1 [.ref r] mu1 _ _ := fun l n la => p_undo hG hM W1
  rw [if_neg o4, if_neg o4] at P
  exact ⟨_, _, _, K, P.v oV.symm, e7, J.mn (by omega)⟩
theorem hq_undo (hG : GP G) (hD : DoS S a c h t p b q) (hM : MoS S r) (O : Od c h t p b q r) (A : Inv N mu c h t p b r) (hN : 1000000 ≤ N ∧ N ≤ 8000000) (hz : ¬ fuF mu h = 0) : ∃ (k : Int) (mu2 : Mem) (V : Int), ((fuF mu h = 0 ∧ k = 0) ∨ (fuF mu h = 3 ∧ k = 1)) ∧ Rn G S yX9_undo wsX9_undo 1 [.ref r] mu mu2 V ∧ mu2 r 7 = k ∧ Inv (N + 3000) mu2 c h t p b r := by
  have e := O_undo_f A
  have W1 := A.mw ⟨by omega, by omega⟩
  by_cases z : mu r 4 = 0
  · rw [if_pos z] at e
    have P : Rn G S yX9_undo wsX9_undo 1 [.ref r] mu _ _ := fun l n la => p_undo hG hM W1
    rw [if_pos z, if_pos z] at P
    have J := A.up7 O (k := 1) ⟨by omega, by omega⟩
    exact ⟨_, _, _, by omega, P, J.2, J.1.mn (by omega)⟩
  · rw [if_neg z] at e
    exact absurd e hz
theorem gq_tab (hG : GP G) (hD : DoS S a c h t p b q) (hM : MoS S r) (O : Od c h t p b q r) (A : Inv N mu c h t p b r) (hN : 1000000 ≤ N ∧ N ≤ 8000000) {x1 x2 : Int} (b1 : -2147483648 ≤ x1 ∧ x1 ≤ 2147483647) (b2 : -2147483648 ≤ x2 ∧ x2 ≤ 2147483647) (hf : ftbF mu c x1 x2 = 0) : ∃ (mu1 mu2 : Mem) (V : Int), Rn G S yX8_tab wsX8_tab 2 [.ref a, .int (I32 x1), .int (I32 x2)] mu mu1 V ∧ Rn G S yX9_tab wsX9_tab 3 [.ref r, .int (I32 x1), .int (I32 x2)] mu1 mu2 V ∧ mu2 r 7 = 0 ∧ Inv (N + 3000) mu2 c h t p b r := by
  have W := A.w0 hN
  have W1 := A.mw ⟨by omega, by omega⟩
  have K : Rn G S yX8_tab wsX8_tab 2 [.ref a, .int (I32 x1), .int (I32 x2)] mu mu _ := fun l n la => k_tab hG hD W b1 b2 hf
  have oo := O_tab A hf
  have f9 : tbF9 (mu (r + 1) 2) x1 x2 = 0 := by
    have cs := cs_tab A x1 x2
    omega
  have P : Rn G S yX9_tab wsX9_tab 3 [.ref r, .int (I32 x1), .int (I32 x2)] mu _ _ := fun l n la => p_tab hG hM W1 b1 b2
  rw [f9, if_pos (rfl : (0 : Int) = 0)] at P
  have J := A.up7 O (k := 0) ⟨by omega, by omega⟩
  exact ⟨_, _, _, K, P.v oo.symm, J.2, J.1.mn (by omega)⟩
theorem hq_tab (hG : GP G) (hD : DoS S a c h t p b q) (hM : MoS S r) (O : Od c h t p b q r) (A : Inv N mu c h t p b r) (hN : 1000000 ≤ N ∧ N ≤ 8000000) {x1 x2 : Int} (b1 : -2147483648 ≤ x1 ∧ x1 ≤ 2147483647) (b2 : -2147483648 ≤ x2 ∧ x2 ≤ 2147483647) (hz : ¬ ftbF mu c x1 x2 = 0) : ∃ (k : Int) (mu2 : Mem) (V : Int), ((ftbF mu c x1 x2 = 0 ∧ k = 0) ∨ (ftbF mu c x1 x2 = 1 ∧ k = 1) ∨ (ftbF mu c x1 x2 = 2 ∧ k = 2)) ∧ Rn G S yX9_tab wsX9_tab 3 [.ref r, .int (I32 x1), .int (I32 x2)] mu mu2 V ∧ mu2 r 7 = k ∧ Inv (N + 3000) mu2 c h t p b r := by
  have W1 := A.mw ⟨by omega, by omega⟩
  have cs := cs_tab A x1 x2
  have k0 : ¬ tbF9 (mu (r + 1) 2) x1 x2 = 0 := by omega
  have P : Rn G S yX9_tab wsX9_tab 3 [.ref r, .int (I32 x1), .int (I32 x2)] mu _ _ := fun l n la => p_tab hG hM W1 b1 b2
  rw [if_neg k0] at P
  have J := A.up7 O (k := tbF9 (mu (r + 1) 2) x1 x2) ⟨by omega, by omega⟩
  exact ⟨_, _, _, by omega, P, J.2, J.1.mn (by omega)⟩
theorem gq_pane (hG : GP G) (hD : DoS S a c h t p b q) (hM : MoS S r) (O : Od c h t p b q r) (A : Inv N mu c h t p b r) (hN : 1000000 ≤ N ∧ N ≤ 8000000) {x1 x2 : Int} (b1 : -2147483648 ≤ x1 ∧ x1 ≤ 2147483647) (b2 : -2147483648 ≤ x2 ∧ x2 ≤ 2147483647) (hf : ppF mu c x1 x2 = 0) : ∃ (mu1 mu2 : Mem) (V : Int), Rn G S yX8_pane wsX8_pane 4 [.ref a, .int (I32 x1), .int (I32 x2)] mu mu1 V ∧ Rn G S yX9_pane wsX9_pane 7 [.ref r, .int (I32 x1), .int (I32 x2)] mu1 mu2 V ∧ mu2 r 7 = 0 ∧ Inv (N + 3000) mu2 c h t p b r := by
  have W := A.w0 hN
  have W1 := A.mw ⟨by omega, by omega⟩
  have K : Rn G S yX8_pane wsX8_pane 4 [.ref a, .int (I32 x1), .int (I32 x2)] mu mu _ := fun l n la => k_pane hG hD W b1 b2 hf
  have oo := O_pane A hf
  have f9 : pnF9 (mu (r + 1) 2) x1 x2 = 0 := by
    have cs := cs_pane A x1 x2
    omega
  have P : Rn G S yX9_pane wsX9_pane 7 [.ref r, .int (I32 x1), .int (I32 x2)] mu _ _ := fun l n la => p_pane hG hM W1 b1 b2 oo.2.2 (fun _ => oo.1)
  rw [if_pos f9, if_pos f9] at P
  have ly := oo.2.2
  have J := A.lay O ⟨by omega, by omega⟩ ly (k := 0) ⟨by omega, by omega⟩
  exact ⟨_, _, _, K, P.v oo.2.1.symm, J.2.1, J.1.mn (by omega)⟩
theorem hq_pane (hG : GP G) (hD : DoS S a c h t p b q) (hM : MoS S r) (O : Od c h t p b q r) (A : Inv N mu c h t p b r) (hN : 1000000 ≤ N ∧ N ≤ 8000000) {x1 x2 : Int} (b1 : -2147483648 ≤ x1 ∧ x1 ≤ 2147483647) (b2 : -2147483648 ≤ x2 ∧ x2 ≤ 2147483647) (hz : ¬ ppF mu c x1 x2 = 0) : ∃ (k : Int) (mu2 : Mem) (V : Int), ((ppF mu c x1 x2 = 0 ∧ k = 0) ∨ (ppF mu c x1 x2 = 1 ∧ k = 1) ∨ (ppF mu c x1 x2 = 2 ∧ k = 2)) ∧ Rn G S yX9_pane wsX9_pane 7 [.ref r, .int (I32 x1), .int (I32 x2)] mu mu2 V ∧ mu2 r 7 = k ∧ Inv (N + 3000) mu2 c h t p b r := by
  have W1 := A.mw ⟨by omega, by omega⟩
  have cs := cs_pane A x1 x2
  have k0 : ¬ pnF9 (mu (r + 1) 2) x1 x2 = 0 := by omega
  have ly := (O_whole A (w := 0) (by decide)).2
  have P : Rn G S yX9_pane wsX9_pane 7 [.ref r, .int (I32 x1), .int (I32 x2)] mu _ _ := fun l n la => p_pane hG hM W1 b1 b2 ly (fun h9 => absurd h9 k0)
  rw [if_neg k0, if_neg k0] at P
  have J := A.up7 O (k := pnF9 (mu (r + 1) 2) x1 x2) ⟨by omega, by omega⟩
  exact ⟨_, _, _, by omega, P, J.2, J.1.mn (by omega)⟩
theorem gq_split (hG : GP G) (hD : DoS S a c h t p b q) (hM : MoS S r) (O : Od c h t p b q r) (A : Inv N mu c h t p b r) (hN : 1000000 ≤ N ∧ N ≤ 8000000) {x1 x2 x3 : Int} (b1 : -2147483648 ≤ x1 ∧ x1 ≤ 2147483647) (b2 : -2147483648 ≤ x2 ∧ x2 ≤ 2147483647) (b3 : -2147483648 ≤ x3 ∧ x3 ≤ 2147483647) (hf : fspF mu c x1 x2 x3 = 0) : ∃ (mu1 mu2 : Mem) (V : Int), Rn G S yX8_split wsX8_split 4 [.ref a, .int (I32 x1), .int (I32 x2), .int (I32 x3)] mu mu1 V ∧ Rn G S yX9_split wsX9_split 7 [.ref r, .int (I32 x1), .int (I32 x2), .int (I32 x3)] mu1 mu2 V ∧ mu2 r 7 = 0 ∧ Inv (N + 3000) mu2 c h t p b r := by
  have W := A.w0 hN
  have W1 := A.mw ⟨by omega, by omega⟩
  have K : Rn G S yX8_split wsX8_split 4 [.ref a, .int (I32 x1), .int (I32 x2), .int (I32 x3)] mu mu _ := fun l n la => k_split hG hD W b1 b2 b3 hf
  have oo := O_split A hf
  have f9 : spF9 (mu (r + 1) 2) x1 x2 x3 = 0 := by
    have cs := cs_split A x1 x2 x3
    omega
  have P : Rn G S yX9_split wsX9_split 7 [.ref r, .int (I32 x1), .int (I32 x2), .int (I32 x3)] mu _ _ := fun l n la => p_split hG hM W1 b1 b2 b3 oo.2
  rw [if_pos f9, if_pos f9] at P
  have ly := oo.2
  have J := A.lay O ⟨by omega, by omega⟩ ly (k := 0) ⟨by omega, by omega⟩
  exact ⟨_, _, _, K, P.v oo.1.symm, J.2.1, J.1.mn (by omega)⟩
theorem hq_split (hG : GP G) (hD : DoS S a c h t p b q) (hM : MoS S r) (O : Od c h t p b q r) (A : Inv N mu c h t p b r) (hN : 1000000 ≤ N ∧ N ≤ 8000000) {x1 x2 x3 : Int} (b1 : -2147483648 ≤ x1 ∧ x1 ≤ 2147483647) (b2 : -2147483648 ≤ x2 ∧ x2 ≤ 2147483647) (b3 : -2147483648 ≤ x3 ∧ x3 ≤ 2147483647) (hz : ¬ fspF mu c x1 x2 x3 = 0) : ∃ (k : Int) (mu2 : Mem) (V : Int), ((fspF mu c x1 x2 x3 = 0 ∧ k = 0) ∨ (fspF mu c x1 x2 x3 = 1 ∧ k = 1) ∨ (fspF mu c x1 x2 x3 = 2 ∧ k = 2)) ∧ Rn G S yX9_split wsX9_split 7 [.ref r, .int (I32 x1), .int (I32 x2), .int (I32 x3)] mu mu2 V ∧ mu2 r 7 = k ∧ Inv (N + 3000) mu2 c h t p b r := by
  have W1 := A.mw ⟨by omega, by omega⟩
  have cs := cs_split A x1 x2 x3
  have k0 : ¬ spF9 (mu (r + 1) 2) x1 x2 x3 = 0 := by omega
  have ly := (O_whole A (w := 0) (by decide)).2
  have P : Rn G S yX9_split wsX9_split 7 [.ref r, .int (I32 x1), .int (I32 x2), .int (I32 x3)] mu _ _ := fun l n la => p_split hG hM W1 b1 b2 b3 ly
  rw [if_neg k0, if_neg k0] at P
  have J := A.up7 O (k := spF9 (mu (r + 1) 2) x1 x2 x3) ⟨by omega, by omega⟩
  exact ⟨_, _, _, by omega, P, J.2, J.1.mn (by omega)⟩
theorem gq_group (hG : GP G) (hD : DoS S a c h t p b q) (hM : MoS S r) (O : Od c h t p b q r) (A : Inv N mu c h t p b r) (hN : 1000000 ≤ N ∧ N ≤ 8000000) {x1 : Int} (b1 : -2147483648 ≤ x1 ∧ x1 ≤ 2147483647) (hf : fiF x1 = 0) : ∃ (mu1 mu2 : Mem) (V : Int), Rn G S yX8_group wsX8_group 2 [.ref a, .int (I32 x1)] mu mu1 V ∧ Rn G S yX9_group wsX9_group 5 [.ref r, .int (I32 x1)] mu1 mu2 V ∧ mu2 r 7 = 0 ∧ Inv (N + 3000) mu2 c h t p b r := by
  have W := A.w0 hN
  have W1 := A.mw ⟨by omega, by omega⟩
  have K : Rn G S yX8_group wsX8_group 2 [.ref a, .int (I32 x1)] mu mu _ := fun l n la => k_group hG hD W b1 hf
  have oo := O_group A hf
  have f9 : ixF9 x1 = 0 := by
    unfold fiF at hf
    unfold ixF9
    by_cases z : 0 ≤ x1
    · rw [if_neg (by omega)]
    · rw [if_neg z] at hf; omega
  have P : Rn G S yX9_group wsX9_group 5 [.ref r, .int (I32 x1)] mu _ _ := fun l n la => p_group hG hM W1 b1 oo.2
  rw [f9, if_pos (rfl : (0 : Int) = 0)] at P
  have J := A.up7 O (k := 0) ⟨by omega, by omega⟩
  exact ⟨_, _, _, K, P.v oo.1.symm, J.2, J.1.mn (by omega)⟩
theorem hq_group (hG : GP G) (hD : DoS S a c h t p b q) (hM : MoS S r) (O : Od c h t p b q r) (A : Inv N mu c h t p b r) (hN : 1000000 ≤ N ∧ N ≤ 8000000) {x1 : Int} (b1 : -2147483648 ≤ x1 ∧ x1 ≤ 2147483647) (hz : ¬ fiF x1 = 0) : ∃ (k : Int) (mu2 : Mem) (V : Int), ((fiF x1 = 0 ∧ k = 0) ∨ (fiF x1 = 2 ∧ k = 1)) ∧ Rn G S yX9_group wsX9_group 5 [.ref r, .int (I32 x1)] mu mu2 V ∧ mu2 r 7 = k ∧ Inv (N + 3000) mu2 c h t p b r := by
  have W1 := A.mw ⟨by omega, by omega⟩
  have k1 : ixF9 x1 = 1 ∧ fiF x1 = 2 := by
    unfold fiF at hz ⊢
    unfold ixF9
    by_cases z : 0 ≤ x1
    · rw [if_pos z] at hz; omega
    · rw [if_pos (by omega), if_neg z]; omega
  have k0 : ¬ ixF9 x1 = 0 := by omega
  have og := (O_group A (i := 0) (by decide)).2
  have P : Rn G S yX9_group wsX9_group 5 [.ref r, .int (I32 x1)] mu _ _ := fun l n la => p_group hG hM W1 b1 og
  rw [if_neg k0] at P
  have J := A.up7 O (k := ixF9 x1) ⟨by omega, by omega⟩
  exact ⟨_, _, _, by omega, P, J.2, J.1.mn (by omega)⟩
theorem gq_floating (hG : GP G) (hD : DoS S a c h t p b q) (hM : MoS S r) (O : Od c h t p b q r) (A : Inv N mu c h t p b r) (hN : 1000000 ≤ N ∧ N ≤ 8000000) {x1 : Int} (b1 : -2147483648 ≤ x1 ∧ x1 ≤ 2147483647) (hf : fiF x1 = 0) : ∃ (mu1 mu2 : Mem) (V : Int), Rn G S yX8_floating wsX8_floating 2 [.ref a, .int (I32 x1)] mu mu1 V ∧ Rn G S yX9_floating wsX9_floating 5 [.ref r, .int (I32 x1)] mu1 mu2 V ∧ mu2 r 7 = 0 ∧ Inv (N + 3000) mu2 c h t p b r := by
  have W := A.w0 hN
  have W1 := A.mw ⟨by omega, by omega⟩
  have K : Rn G S yX8_floating wsX8_floating 2 [.ref a, .int (I32 x1)] mu mu _ := fun l n la => k_floating hG hD W b1 hf
  have oo := O_floating A hf
  have f9 : ixF9 x1 = 0 := by
    unfold fiF at hf
    unfold ixF9
    by_cases z : 0 ≤ x1
    · rw [if_neg (by omega)]
    · rw [if_neg z] at hf; omega
  have P : Rn G S yX9_floating wsX9_floating 5 [.ref r, .int (I32 x1)] mu _ _ := fun l n la => p_floating hG hM W1 b1
  rw [f9, if_pos (rfl : (0 : Int) = 0)] at P
  have J := A.up7 O (k := 0) ⟨by omega, by omega⟩
  exact ⟨_, _, _, K, P.v oo.symm, J.2, J.1.mn (by omega)⟩
theorem hq_floating (hG : GP G) (hD : DoS S a c h t p b q) (hM : MoS S r) (O : Od c h t p b q r) (A : Inv N mu c h t p b r) (hN : 1000000 ≤ N ∧ N ≤ 8000000) {x1 : Int} (b1 : -2147483648 ≤ x1 ∧ x1 ≤ 2147483647) (hz : ¬ fiF x1 = 0) : ∃ (k : Int) (mu2 : Mem) (V : Int), ((fiF x1 = 0 ∧ k = 0) ∨ (fiF x1 = 2 ∧ k = 1)) ∧ Rn G S yX9_floating wsX9_floating 5 [.ref r, .int (I32 x1)] mu mu2 V ∧ mu2 r 7 = k ∧ Inv (N + 3000) mu2 c h t p b r := by
  have W1 := A.mw ⟨by omega, by omega⟩
  have k1 : ixF9 x1 = 1 ∧ fiF x1 = 2 := by
    unfold fiF at hz ⊢
    unfold ixF9
    by_cases z : 0 ≤ x1
    · rw [if_pos z] at hz; omega
    · rw [if_pos (by omega), if_neg z]; omega
  have k0 : ¬ ixF9 x1 = 0 := by omega
  have P : Rn G S yX9_floating wsX9_floating 5 [.ref r, .int (I32 x1)] mu _ _ := fun l n la => p_floating hG hM W1 b1
  rw [if_neg k0] at P
  have J := A.up7 O (k := ixF9 x1) ⟨by omega, by omega⟩
  exact ⟨_, _, _, by omega, P, J.2, J.1.mn (by omega)⟩
theorem gq_whole (hG : GP G) (hD : DoS S a c h t p b q) (hM : MoS S r) (O : Od c h t p b q r) (A : Inv N mu c h t p b r) (hN : 1000000 ≤ N ∧ N ≤ 8000000) {x1 : Int} (b1 : -2147483648 ≤ x1 ∧ x1 ≤ 2147483647) (hf : frF x1 0 11 = 0) : ∃ (mu1 mu2 : Mem) (V : Int), Rn G S yX8_whole wsX8_whole 3 [.ref a, .int (I32 x1)] mu mu1 V ∧ Rn G S yX9_whole wsX9_whole 7 [.ref r, .int (I32 x1)] mu1 mu2 V ∧ mu2 r 7 = 0 ∧ Inv (N + 3000) mu2 c h t p b r := by
  have W := A.w0 hN
  have W1 := A.mw ⟨by omega, by omega⟩
  have K : Rn G S yX8_whole wsX8_whole 3 [.ref a, .int (I32 x1)] mu mu _ := fun l n la => k_whole hG hD W hf
  have oo := O_whole A hf
  have f9 : whF9 x1 = 0 := by
    unfold frF at hf
    unfold whF9
    by_cases z : 0 ≤ x1 ∧ x1 ≤ 11
    · rw [if_pos z]
    · rw [if_neg z] at hf; omega
  have P : Rn G S yX9_whole wsX9_whole 7 [.ref r, .int (I32 x1)] mu _ _ := fun l n la => p_whole hG hM W1 b1 oo.2
  rw [if_pos f9, if_pos f9] at P
  have ly := oo.2
  have J := A.lay O ⟨by omega, by omega⟩ ly (k := 0) ⟨by omega, by omega⟩
  exact ⟨_, _, _, K, P.v oo.1.symm, J.2.1, J.1.mn (by omega)⟩
theorem hq_whole (hG : GP G) (hD : DoS S a c h t p b q) (hM : MoS S r) (O : Od c h t p b q r) (A : Inv N mu c h t p b r) (hN : 1000000 ≤ N ∧ N ≤ 8000000) {x1 : Int} (b1 : -2147483648 ≤ x1 ∧ x1 ≤ 2147483647) (hz : ¬ frF x1 0 11 = 0) : ∃ (k : Int) (mu2 : Mem) (V : Int), ((frF x1 0 11 = 0 ∧ k = 0) ∨ (frF x1 0 11 = 2 ∧ k = 1)) ∧ Rn G S yX9_whole wsX9_whole 7 [.ref r, .int (I32 x1)] mu mu2 V ∧ mu2 r 7 = k ∧ Inv (N + 3000) mu2 c h t p b r := by
  have W1 := A.mw ⟨by omega, by omega⟩
  have ly := (O_whole A (w := 0) (by decide)).2
  have k1 : whF9 x1 = 1 ∧ frF x1 0 11 = 2 := by
    unfold frF at hz ⊢
    unfold whF9
    by_cases z : 0 ≤ x1 ∧ x1 ≤ 11
    · rw [if_pos z] at hz; omega
    · rw [if_neg z, if_neg z]; omega
  have k0 : ¬ whF9 x1 = 0 := by omega
  have P : Rn G S yX9_whole wsX9_whole 7 [.ref r, .int (I32 x1)] mu _ _ := fun l n la => p_whole hG hM W1 b1 ly
  rw [if_neg k0, if_neg k0] at P
  have J := A.up7 O (k := 1) ⟨by omega, by omega⟩
  exact ⟨_, _, _, by omega, P, J.2, J.1.mn (by omega)⟩
theorem gq_paneAt (hG : GP G) (hD : DoS S a c h t p b q) (hM : MoS S r) (O : Od c h t p b q r) (A : Inv N mu c h t p b r) (hN : 1000000 ≤ N ∧ N ≤ 8000000) {x1 x2 : Int} (b1 : -2147483648 ≤ x1 ∧ x1 ≤ 2147483647) (b2 : -2147483648 ≤ x2 ∧ x2 ≤ 2147483647) (hf : fpaF mu c x1 x2 = 0) : ∃ (mu1 mu2 : Mem) (V : Int), Rn G S yX8_paneAt wsX8_paneAt 4 [.ref a, .int (I32 x1), .int (I32 x2)] mu mu1 V ∧ Rn G S yX9_paneAt wsX9_paneAt 7 [.ref r, .int (I32 x1), .int (I32 x2)] mu1 mu2 V ∧ mu2 r 7 = 0 ∧ Inv (N + 3000) mu2 c h t p b r := by
  have W := A.w0 hN
  have W1 := A.mw ⟨by omega, by omega⟩
  have K : Rn G S yX8_paneAt wsX8_paneAt 4 [.ref a, .int (I32 x1), .int (I32 x2)] mu mu _ := fun l n la => k_paneAt hG hD W b1 b2 hf
  have oo := O_at A hf
  have st := A.1.st
  have w0 := st.wid
  have w1 := st.hig
  have wh : (0 ≤ mu (r + 1) 0 ∧ mu (r + 1) 0 ≤ 1000) ∧ 0 ≤ mu (r + 1) 1 ∧ mu (r + 1) 1 ≤ 1000 := by omega
  have f9 : paF9 (mu (r + 1) 0) (mu (r + 1) 1) x1 x2 = 0 := by
    unfold fpaF at hf
    unfold paF9
    by_cases z : (0 ≤ x1 ∧ x1 < mu c 0) ∧ 0 ≤ x2 ∧ x2 < mu c 1
    · rw [if_pos (by omega)]
    · rw [if_neg z] at hf; omega
  have P : Rn G S yX9_paneAt wsX9_paneAt 7 [.ref r, .int (I32 x1), .int (I32 x2)] mu _ _ := fun l n la => p_paneAt hG hM W1 wh b1 b2 oo.2
  rw [if_pos f9, if_pos f9] at P
  have ly := oo.2
  have J := A.lay O ⟨by omega, by omega⟩ ly (k := 0) ⟨by omega, by omega⟩
  exact ⟨_, _, _, K, P.v oo.1.symm, J.2.1, J.1.mn (by omega)⟩
theorem hq_paneAt (hG : GP G) (hD : DoS S a c h t p b q) (hM : MoS S r) (O : Od c h t p b q r) (A : Inv N mu c h t p b r) (hN : 1000000 ≤ N ∧ N ≤ 8000000) {x1 x2 : Int} (b1 : -2147483648 ≤ x1 ∧ x1 ≤ 2147483647) (b2 : -2147483648 ≤ x2 ∧ x2 ≤ 2147483647) (hz : ¬ fpaF mu c x1 x2 = 0) : ∃ (k : Int) (mu2 : Mem) (V : Int), ((fpaF mu c x1 x2 = 0 ∧ k = 0) ∨ (fpaF mu c x1 x2 = 1 ∧ k = 1)) ∧ Rn G S yX9_paneAt wsX9_paneAt 7 [.ref r, .int (I32 x1), .int (I32 x2)] mu mu2 V ∧ mu2 r 7 = k ∧ Inv (N + 3000) mu2 c h t p b r := by
  have W1 := A.mw ⟨by omega, by omega⟩
  have ly := (O_whole A (w := 0) (by decide)).2
  have st := A.1.st
  have w0 := st.wid
  have w1 := st.hig
  have wh : (0 ≤ mu (r + 1) 0 ∧ mu (r + 1) 0 ≤ 1000) ∧ 0 ≤ mu (r + 1) 1 ∧ mu (r + 1) 1 ≤ 1000 := by omega
  have k1 : paF9 (mu (r + 1) 0) (mu (r + 1) 1) x1 x2 = 1 ∧ fpaF mu c x1 x2 = 1 := by
    unfold fpaF at hz ⊢
    unfold paF9
    by_cases z : (0 ≤ x1 ∧ x1 < mu c 0) ∧ 0 ≤ x2 ∧ x2 < mu c 1
    · rw [if_pos z] at hz; omega
    · rw [if_neg (by omega), if_neg z]; omega
  have k0 : ¬ paF9 (mu (r + 1) 0) (mu (r + 1) 1) x1 x2 = 0 := by omega
  have P : Rn G S yX9_paneAt wsX9_paneAt 7 [.ref r, .int (I32 x1), .int (I32 x2)] mu _ _ := fun l n la => p_paneAt hG hM W1 wh b1 b2 ly
  rw [if_neg k0, if_neg k0] at P
  have J := A.up7 O (k := 1) ⟨by omega, by omega⟩
  exact ⟨_, _, _, by omega, P, J.2, J.1.mn (by omega)⟩
theorem gq_tightIn (hG : GP G) (hD : DoS S a c h t p b q) (hM : MoS S r) (O : Od c h t p b q r) (A : Inv N mu c h t p b r) (hN : 1000000 ≤ N ∧ N ≤ 8000000) {x1 x2 : Int} (b1 : -2147483648 ≤ x1 ∧ x1 ≤ 2147483647) (b2 : -2147483648 ≤ x2 ∧ x2 ≤ 2147483647) (hf : fwF x1 x2 = 0) : ∃ (mu1 mu2 : Mem) (V : Int), Rn G S yX8_tightIn wsX8_tightIn 5 [.ref a, .int (I32 x1), .int (I32 x2)] mu mu1 V ∧ Rn G S yX9_tightIn wsX9_tightIn 6 [.ref r, .int (I32 x1), .int (I32 x2)] mu1 mu2 V ∧ mu2 r 7 = 0 ∧ Inv (N + 3000) mu2 c h t p b r := by
  have W := A.w0 hN
  have K : Rn G S yX8_tightIn wsX8_tightIn 5 [.ref a, .int (I32 x1), .int (I32 x2)] mu (wkR mu q (c + 2) (c + 1) x1 x2) _ := fun l n la => k_tightIn hG hD W b1 b2 hf
  obtain ⟨mu1, e1⟩ : ∃ m : Mem, m = wkR mu q (c + 2) (c + 1) x1 x2 := ⟨_, rfl⟩
  rw [← e1] at K
  obtain ⟨oV, ly, A1, W1⟩ := O_tight O A ⟨by omega, by omega⟩ hf e1
  have P : Rn G S yX9_tightIn wsX9_tightIn 6 [.ref r, .int (I32 x1), .int (I32 x2)] mu1 _ _ := fun l n la => p_tightIn hG hM W1 b1 b2 (fun _ => ly)
  rw [if_pos hf, if_pos hf] at P
  have J := A1.layA O ⟨by omega, by omega⟩ b1 b2 ly (k := 0) ⟨by omega, by omega⟩
  exact ⟨_, _, _, K, P.v oV.symm, J.2.1, J.1.mn (by omega)⟩
theorem hq_tightIn (hG : GP G) (hD : DoS S a c h t p b q) (hM : MoS S r) (O : Od c h t p b q r) (A : Inv N mu c h t p b r) (hN : 1000000 ≤ N ∧ N ≤ 8000000) {x1 x2 : Int} (b1 : -2147483648 ≤ x1 ∧ x1 ≤ 2147483647) (b2 : -2147483648 ≤ x2 ∧ x2 ≤ 2147483647) (hz : ¬ fwF x1 x2 = 0) : ∃ (k : Int) (mu2 : Mem) (V : Int), ((fwF x1 x2 = 0 ∧ k = 0) ∨ (fwF x1 x2 = 2 ∧ k = 1)) ∧ Rn G S yX9_tightIn wsX9_tightIn 6 [.ref r, .int (I32 x1), .int (I32 x2)] mu mu2 V ∧ mu2 r 7 = k ∧ Inv (N + 3000) mu2 c h t p b r := by
  have W1 := A.mw ⟨by omega, by omega⟩
  have bd : fwF x1 x2 = 0 ∨ fwF x1 x2 = 2 := by unfold fwF; (repeat' split) <;> omega
  have P : Rn G S yX9_tightIn wsX9_tightIn 6 [.ref r, .int (I32 x1), .int (I32 x2)] mu _ _ := fun l n la => p_tightIn hG hM W1 b1 b2 (fun h9 => absurd h9 hz)
  rw [if_neg hz, if_neg hz] at P
  have J := A.up7 O (k := 1) ⟨by omega, by omega⟩
  exact ⟨_, _, _, by omega, P, J.2, J.1.mn (by omega)⟩
theorem gq_cellsIf (hG : GP G) (hD : DoS S a c h t p b q) (hM : MoS S r) (O : Od c h t p b q r) (A : Inv N mu c h t p b r) (hN : 1000000 ≤ N ∧ N ≤ 8000000) {x1 x2 x3 : Int} (b1 : -2147483648 ≤ x1 ∧ x1 ≤ 2147483647) (b2 : -2147483648 ≤ x2 ∧ x2 ≤ 2147483647) (b3 : -2147483648 ≤ x3 ∧ x3 ≤ 2147483647) (hf : fdF mu c x1 x2 x3 = 0) : ∃ (mu1 mu2 : Mem) (V : Int), Rn G S yX8_cellsIf wsX8_cellsIf 6 [.ref a, .int (I32 x1), .int (I32 x2), .int (I32 x3)] mu mu1 V ∧ Rn G S yX9_cellsIf wsX9_cellsIf 8 [.ref r, .int (I32 x1), .int (I32 x2), .int (I32 x3)] mu1 mu2 V ∧ mu2 r 7 = 0 ∧ Inv (N + 3000) mu2 c h t p b r := by
  have W := A.w0 hN
  have K : Rn G S yX8_cellsIf wsX8_cellsIf 6 [.ref a, .int (I32 x1), .int (I32 x2), .int (I32 x3)] mu (cb3 mu c b q x1 x2 x3) _ := fun l n la => k_cellsIf hG hD W ((A.1.bd (by omega)).2.1.mono (by omega)) b1 b2 b3 hf
  obtain ⟨mu1, e1⟩ : ∃ m : Mem, m = cb3 mu c b q x1 x2 x3 := ⟨_, rfl⟩
  rw [← e1] at K
  obtain ⟨oV, ok, A1, W1⟩ := O_cells O A ⟨by omega, by omega⟩ hf e1
  have off : ∀ (v : Nat) (i : Int), r ≤ v → mu1 v i = mu v i := fun v i hv => by
    have O2 := O
    obtain ⟨o1, o2, o3, o4, o5, o6⟩ := O2
    rw [e1, cb3_off (by omega) (by omega)]
  have cs := cs_cellsIf A x1 x2 x3
  have f9 : mcF (trT mu1 r) (mu1 (r + 1) 2) x1 x2 x3 = 0 := by
    rw [trT_off off, off _ _ (by omega)]
    omega
  obtain ⟨f1, f2, f3, f4, f5⟩ := fd0 hf
  have PP := A.base.2.1
  have P : Rn G S yX9_cellsIf wsX9_cellsIf 8 [.ref r, .int (I32 x1), .int (I32 x2), .int (I32 x3)] mu1 _ _ := fun l n la => p_cellsIf hG hM W1 b1 b2 b3 (fun _ => ok)
  rw [if_pos f9, if_pos f9] at P
  have J := A1.cb O ⟨by omega, by omega⟩ (x := x1) (y := x2) (by omega) (by omega) ok (k := 0) ⟨by omega, by omega⟩
  exact ⟨_, _, _, K, P.v oV.symm, J.2, J.1.mn (by omega)⟩
theorem hq_cellsIf (hG : GP G) (hD : DoS S a c h t p b q) (hM : MoS S r) (O : Od c h t p b q r) (A : Inv N mu c h t p b r) (hN : 1000000 ≤ N ∧ N ≤ 8000000) {x1 x2 x3 : Int} (b1 : -2147483648 ≤ x1 ∧ x1 ≤ 2147483647) (b2 : -2147483648 ≤ x2 ∧ x2 ≤ 2147483647) (b3 : -2147483648 ≤ x3 ∧ x3 ≤ 2147483647) (hz : ¬ fdF mu c x1 x2 x3 = 0) : ∃ (k : Int) (mu2 : Mem) (V : Int), ((fdF mu c x1 x2 x3 = 0 ∧ k = 0) ∨ (fdF mu c x1 x2 x3 = 1 ∧ k = 1) ∨ (fdF mu c x1 x2 x3 = 2 ∧ k = 2) ∨ (fdF mu c x1 x2 x3 = 3 ∧ k = 3)) ∧ Rn G S yX9_cellsIf wsX9_cellsIf 8 [.ref r, .int (I32 x1), .int (I32 x2), .int (I32 x3)] mu mu2 V ∧ mu2 r 7 = k ∧ Inv (N + 3000) mu2 c h t p b r := by
  have W1 := A.mw ⟨by omega, by omega⟩
  have cs := cs_cellsIf A x1 x2 x3
  have k0 : ¬ mcF (trT mu r) (mu (r + 1) 2) x1 x2 x3 = 0 := by omega
  have P : Rn G S yX9_cellsIf wsX9_cellsIf 8 [.ref r, .int (I32 x1), .int (I32 x2), .int (I32 x3)] mu _ _ := fun l n la => p_cellsIf hG hM W1 b1 b2 b3 (fun h9 => absurd h9 k0)
  rw [if_neg k0, if_neg k0] at P
  have J := A.up7 O (k := mcF (trT mu r) (mu (r + 1) 2) x1 x2 x3) ⟨by omega, by omega⟩
  exact ⟨_, _, _, by omega, P, J.2, J.1.mn (by omega)⟩
theorem gq_bestSide (hG : GP G) (hD : DoS S a c h t p b q) (hM : MoS S r) (O : Od c h t p b q r) (A : Inv N mu c h t p b r) (hN : 1000000 ≤ N ∧ N ≤ 8000000) {x1 x2 : Int} (b1 : -2147483648 ≤ x1 ∧ x1 ≤ 2147483647) (b2 : -2147483648 ≤ x2 ∧ x2 ≤ 2147483647) (hf : fdF mu c x1 x2 0 = 0) : ∃ (mu1 mu2 : Mem) (V : Int), Rn G S yX8_bestSide wsX8_bestSide 6 [.ref a, .int (I32 x1), .int (I32 x2)] mu mu1 V ∧ Rn G S yX9_bestSide wsX9_bestSide 8 [.ref r, .int (I32 x1), .int (I32 x2)] mu1 mu2 V ∧ mu2 r 7 = 0 ∧ Inv (N + 3000) mu2 c h t p b r := by
  have W := A.w0 hN
  have K : Rn G S yX8_bestSide wsX8_bestSide 6 [.ref a, .int (I32 x1), .int (I32 x2)] mu ((bsG mu c b q x1 x2 4).1) _ := fun l n la => k_bestSide hG hD W ((A.1.bd (by omega)).2.1.mono (by omega)) b1 b2 hf
  obtain ⟨mu1, e1⟩ : ∃ m : Mem, m = (bsG mu c b q x1 x2 4).1 := ⟨_, rfl⟩
  rw [← e1] at K
  obtain ⟨oV, ho, f9, W1, J, e7⟩ := O_best O A ⟨by omega, by omega⟩ hf e1
  have P : Rn G S yX9_bestSide wsX9_bestSide 8 [.ref r, .int (I32 x1), .int (I32 x2)] mu1 _ _ := fun l n la => p_bestSide hG hM W1 b1 b2 (fun _ => ho)
  rw [if_pos f9, if_pos f9] at P
  exact ⟨_, _, _, K, P.v oV.symm, e7, J.mn (by omega)⟩
theorem hq_bestSide (hG : GP G) (hD : DoS S a c h t p b q) (hM : MoS S r) (O : Od c h t p b q r) (A : Inv N mu c h t p b r) (hN : 1000000 ≤ N ∧ N ≤ 8000000) {x1 x2 : Int} (b1 : -2147483648 ≤ x1 ∧ x1 ≤ 2147483647) (b2 : -2147483648 ≤ x2 ∧ x2 ≤ 2147483647) (hz : ¬ fdF mu c x1 x2 0 = 0) : ∃ (k : Int) (mu2 : Mem) (V : Int), ((fdF mu c x1 x2 0 = 0 ∧ k = 0) ∨ (fdF mu c x1 x2 0 = 1 ∧ k = 1) ∨ (fdF mu c x1 x2 0 = 2 ∧ k = 2) ∨ (fdF mu c x1 x2 0 = 3 ∧ k = 3)) ∧ Rn G S yX9_bestSide wsX9_bestSide 8 [.ref r, .int (I32 x1), .int (I32 x2)] mu mu2 V ∧ mu2 r 7 = k ∧ Inv (N + 3000) mu2 c h t p b r := by
  have W1 := A.mw ⟨by omega, by omega⟩
  have cs := cs_bestSide A x1 x2
  have k0 : ¬ bsF9 (trT mu r) (mu (r + 1) 2) x1 x2 = 0 := by omega
  have P : Rn G S yX9_bestSide wsX9_bestSide 8 [.ref r, .int (I32 x1), .int (I32 x2)] mu _ _ := fun l n la => p_bestSide hG hM W1 b1 b2 (fun h9 => absurd h9 k0)
  rw [if_neg k0, if_neg k0] at P
  have J := A.up7 O (k := bsF9 (trT mu r) (mu (r + 1) 2) x1 x2) ⟨by omega, by omega⟩
  exact ⟨_, _, _, by omega, P, J.2, J.1.mn (by omega)⟩
theorem drgF_1 {m : Mem} {x d v : Int} (e : drgF m r x d v = 0) : v = 1 := by
  unfold drgF at e
  by_cases z : v = 1
  · exact z
  · rw [if_neg z] at e
    by_cases z1 : ¬ (0 ≤ x ∧ x ≤ m (r + 1) 2 - 1)
    · rw [if_pos z1] at e; omega
    · rw [if_neg z1] at e
      by_cases z2 : ¬ (-400 ≤ d ∧ d ≤ 400)
      · rw [if_pos z2] at e; omega
      · rw [if_neg z2] at e; omega
theorem drag_off {L : Mem} (O : Od c h t p b q r) (n : 0 ≤ mu h 2 ∧ mu h 2 < 4) {v : Nat} (hv : r ≤ v) (i : Int) : stlM (putL (pshM mu c h) (c + 2) L) p c v i = mu v i := by
  obtain ⟨o1, o2, o3, o4, o5, o6⟩ := O
  have e1 : stlM (putL (pshM mu c h) (c + 2) L) p c v i = putL (pshM mu c h) (c + 2) L v i := putK_off (by omega) i
  rw [e1, putL_x (by omega), pshM_off n (by omega)]
theorem gq_drag (hG : GP G) (hD : DoS S a c h t p b q) (hM : MoS S r) (O : Od c h t p b q r) (A : Inv N mu c h t p b r) (hN : 1000000 ≤ N ∧ N ≤ 8000000) {x1 x2 : Int} (b1 : -2147483648 ≤ x1 ∧ x1 ≤ 2147483647) (b2 : -2147483648 ≤ x2 ∧ x2 ≤ 2147483647) (hf : fdrF mu c p x1 x2 = 0) : ∃ (mu1 mu2 : Mem) (V : Int), Rn G S yX8_drag wsX8_drag 6 [.ref a, .int (I32 x1), .int (I32 x2)] mu mu1 V ∧ Rn G S yX9_drag wsX9_drag 8 [.ref r, .int (I32 x1), .int (I32 x2)] mu1 mu2 V ∧ mu2 r 7 = 0 ∧ Inv (N + 3000) mu2 c h t p b r := by
  have W := A.w0 hN
  have O2 := O
  obtain ⟨o1, o2, o3, o4, o5, o6⟩ := O2
  have nx := A.1.hy.nxt
  obtain ⟨g0, eg⟩ : ∃ g : Int, g = lay mu (c + 2) 0 x1 := ⟨_, rfl⟩
  obtain ⟨s0, es⟩ : ∃ s : Int, s = lay mu (c + 2) 0 g0 := ⟨_, rfl⟩
  obtain ⟨ax, ea⟩ : ∃ s : Int, s = lay mu (c + 2) 5 (s0 - 32) := ⟨_, rfl⟩
  obtain ⟨d1, d2, d3, d4, d5, d6⟩ := O_drag_b A ⟨by omega, by omega⟩ hf eg es ea
  have eL : lay (pshM mu c h) (c + 2) = lay mu (c + 2) := lay_pshM nx o1
  have eP : pl (pshM mu c h) p = pl mu p := pl_pshM nx (by omega)
  have K : Rn G S yX8_drag wsX8_drag 6 [.ref a, .int (I32 x1), .int (I32 x2)] mu _ _ := fun l n la => k_drag hG hD W b1 b2 (by rw [d1, d2, d4]; exact d5) (by rw [eL, eP, d1, d2, d3]; exact d6.mono (by omega)) hf
  rw [eL, eP, d1, d2, d3] at K
  obtain ⟨mu1, e1⟩ : ∃ m : Mem, m = stlM (putL (pshM mu c h) (c + 2) (mdF (lay mu (c + 2)) (pl mu p) g0 ax x2)) p c := ⟨_, rfl⟩
  rw [← e1] at K
  obtain ⟨mh, emh⟩ : ∃ m : Mem, m = drgH mu1 r := ⟨_, rfl⟩
  obtain ⟨T, eT⟩ : ∃ m : Mem, m = trT mu1 r := ⟨_, rfl⟩
  obtain ⟨Z, eZ⟩ : ∃ m : Mem, m = zOf mh r := ⟨_, rfl⟩
  obtain ⟨g, egg⟩ : ∃ m : Int, m = T 9 x1 := ⟨_, rfl⟩
  obtain ⟨s, ess⟩ : ∃ m : Int, m = T 1 g := ⟨_, rfl⟩
  obtain ⟨m, em⟩ : ∃ m : Nat, m = (kdT T s).toNat := ⟨_, rfl⟩
  obtain ⟨Tn, eTn⟩ : ∃ m9 : Mem, m9 = drgT T Z s g x2 m := ⟨_, rfl⟩
  obtain ⟨⟨z1, z2, z3⟩, W1, z4, z5, z6, z7, z8, z9, z10, z11, z12, z13, z14, z15, z16, oV, J, e7⟩ := O_drag O A ⟨by omega, by omega⟩ hf eg es ea e1 emh eT eZ egg ess em eTn
  have Rt : R32 mu1 := W1.1
  have off : ∀ (v : Nat) (i : Int), r ≤ v → mu1 v i = mu v i := fun v i hv => by
    rw [e1]
    exact drag_off O nx hv i
  by_cases my : myG mu1 r x1
  · have fd := O_drag_f A ⟨by omega, by omega⟩ Rt off (x := x1) (d := x2) (v := myV (trT mu1 r) (zW mu1 r) x1 x2) (fun _ => rfl) (fun h9 => absurd my h9)
    have PP := A.base.2.1
    obtain ⟨f0, f1, f2, f3⟩ := fdr0 hf
    obtain ⟨y1, y2, y3⟩ := fd.2 f0.1 f0.2
    have h9 : ∀ (l : Launch) (n : Nat) (la : Lam), Ct G l yX9_mayDrag wsX9_mayDrag 7 0 0 [.ref r, .int (I32 x1), .int (I32 x2)] S n mu1 la (Dt (some (.int (I32 1))) S n (lyW mu1 r) la) := fun l n la => m_mayDrag hG hM W1 z1 z3 (fun _ => y1) y2 (fun _ => y3) (fun _ => by
      have e := fd.1
      rw [hf] at e
      exact (drgF_1 e).symm) (fun h8 => absurd my h8) (fun _ => rfl) (fun h8 => absurd my h8)
    have P : Rn G S yX9_drag wsX9_drag 8 [.ref r, .int (I32 x1), .int (I32 x2)] mu1 _ _ := fun l n la => p_drag hG hM W1 z1 z2 z3 h9 emh eT eZ egg ess z4 eTn z5 z6 z7 z8 z9 z10 z11 z12 z13 z14 z15 z16
    exact ⟨_, _, _, K, P.v oV.symm, e7, J.mn (by omega)⟩
  · have fd := O_drag_f A ⟨by omega, by omega⟩ Rt off (x := x1) (d := x2) (v := 0) (fun h9 => absurd h9 my) (fun _ => rfl)
    have e := fd.1
    rw [hf] at e
    exact absurd (drgF_1 e) (by decide)
theorem hq_drag (hG : GP G) (hD : DoS S a c h t p b q) (hM : MoS S r) (O : Od c h t p b q r) (A : Inv N mu c h t p b r) (hN : 1000000 ≤ N ∧ N ≤ 8000000) {x1 x2 : Int} (b1 : -2147483648 ≤ x1 ∧ x1 ≤ 2147483647) (b2 : -2147483648 ≤ x2 ∧ x2 ≤ 2147483647) (hz : ¬ fdrF mu c p x1 x2 = 0) : ∃ (k : Int) (mu2 : Mem) (V : Int), ((fdrF mu c p x1 x2 = 0 ∧ k = 0) ∨ (fdrF mu c p x1 x2 = 1 ∧ k = 1) ∨ (fdrF mu c p x1 x2 = 2 ∧ k = 2) ∨ (fdrF mu c p x1 x2 = 3 ∧ k = 3)) ∧ Rn G S yX9_drag wsX9_drag 8 [.ref r, .int (I32 x1), .int (I32 x2)] mu mu2 V ∧ mu2 r 7 = k ∧ Inv (N + 3000) mu2 c h t p b r := by
  have W1 := A.mw ⟨by omega, by omega⟩
  have PP := A.base.2.1
  have key : ∀ (v : Int) (m : Mem), (myG mu r x1 → v = myV (trT mu r) (zW mu r) x1 x2) → (¬ myG mu r x1 → v = 0) → (myG mu r x1 → m = lyW mu r) → (¬ myG mu r x1 → m = mu) → (v = 0 ∨ v = 1) → ∃ (k : Int) (mu2 : Mem) (V : Int), ((fdrF mu c p x1 x2 = 0 ∧ k = 0) ∨ (fdrF mu c p x1 x2 = 1 ∧ k = 1) ∨ (fdrF mu c p x1 x2 = 2 ∧ k = 2) ∨ (fdrF mu c p x1 x2 = 3 ∧ k = 3)) ∧ Rn G S yX9_drag wsX9_drag 8 [.ref r, .int (I32 x1), .int (I32 x2)] mu mu2 V ∧ mu2 r 7 = k ∧ Inv (N + 3000) mu2 c h t p b r := fun v m hv hv0 hm hm0 hv9 => by
    have fd := O_drag_f A ⟨by omega, by omega⟩ A.2 (fun _ _ _ => rfl) (x := x1) (d := x2) hv hv0
    have bd : drgF mu r x1 x2 v = 0 ∨ drgF mu r x1 x2 v = 1 ∨ drgF mu r x1 x2 v = 2 ∨ drgF mu r x1 x2 v = 3 := by unfold drgF; (repeat' split) <;> omega
    have e0 := A.base.1
    have h9 : (0 ≤ x1 ∧ x1 ≤ mu (r + 1) 2 - 1) → (-400 ≤ x2 ∧ x2 ≤ 400) → ∀ (l : Launch) (n : Nat) (la : Lam), Ct G l yX9_mayDrag wsX9_mayDrag 7 0 0 [.ref r, .int (I32 x1), .int (I32 x2)] S n mu la (Dt (some (.int (I32 v))) S n m la) := fun h1 h2 l n la => by
      obtain ⟨y1, y2, y3⟩ := fd.2 (by omega) (by omega)
      exact m_mayDrag hG hM W1 (by omega) h2 (fun _ => y1) y2 (fun _ => y3) hv hv0 hm hm0
    have P : Rn G S yX9_drag wsX9_drag 8 [.ref r, .int (I32 x1), .int (I32 x2)] mu _ _ := fun l n la => p_dragNo hG hM W1 b1 b2 h9 hv9 (by rw [fd.1]; exact hz)
    have kk : drgF mu r x1 x2 v ≠ 0 := by rw [fd.1]; exact hz
    by_cases k3 : drgF mu r x1 x2 v = 3 ∧ myG mu r x1
    · rw [if_pos k3.1, hm k3.2] at P
      have ly := (O_whole A (w := 0) (by decide)).2
      have J := A.lay O ⟨by omega, by omega⟩ ly (k := drgF mu r x1 x2 v) ⟨by omega, by omega⟩
      exact ⟨_, _, _, by rw [← fd.1]; omega, P, J.2.1, J.1.mn (by omega)⟩
    · have em : (if drgF mu r x1 x2 v = 3 then m else mu) = mu := by
        by_cases z : drgF mu r x1 x2 v = 3
        · rw [if_pos z]
          exact hm0 (fun h8 => k3 ⟨z, h8⟩)
        · rw [if_neg z]
      rw [em] at P
      have J := A.up7 O (k := drgF mu r x1 x2 v) ⟨by omega, by omega⟩
      exact ⟨_, _, _, by rw [← fd.1]; omega, P, J.2, J.1.mn (by omega)⟩
  by_cases my : myG mu r x1
  · refine key (myV (trT mu r) (zW mu r) x1 x2) (lyW mu r) (fun _ => rfl) (fun h9 => absurd my h9) (fun _ => rfl) (fun h9 => absurd my h9) ?_
    unfold myV
    (repeat' split) <;> omega
  · exact key 0 mu (fun h9 => absurd h9 my) (fun _ => rfl) (fun h9 => absurd h9 my) (fun _ => rfl) (Or.inl rfl)
end OPS
