/-! THE CHANGES: save, bringBack, undo -/
theorem ptS_self (s : Int → Int) (i : Int) : ptS s (trS s 35) i = s i := by
  unfold ptS trS
  by_cases z : 35 ≤ i ∧ i < 355
  · rw [if_pos z]
    by_cases y : i < 323
    · rw [if_pos y, if_pos (by omega)]
      congr 1
      omega
    · rw [if_neg y]
      by_cases w : (i - 323) % 2 = 0
      · rw [if_pos w, if_neg (by omega), if_pos rfl]
        congr 1
        omega
      · rw [if_neg w, if_neg (by omega), if_neg (by omega)]
        congr 1
        omega
  · rw [if_neg z]
theorem piG_e {u : Int → Int} {L T : Mem} {kq : Int} (R : Rl u L T (-1) kq) : ∀ m : Nat, m ≤ 16 → piG L 1 m + piG L 2 m = smG (opn T) m
  | 0, _ => rfl
  | m + 1, hm => by
    have ih := piG_e R m (by omega)
    have st := R.stt (p := m) (by omega)
    unfold sxT at st
    unfold piG smG
    rw [← ih, ← st]
    unfold opn
    (repeat' split) <;> omega
section OPS
variable {N : Int} {mu : Mem} {c h t p b q r : Nat}
theorem hk_e {m : Mem} {s : Int → Int} (A : RS N m c s) {j : Nat} (hj : j < 4) : hkF m c j = s (355 + 321 * j) ∧ m (c + 12) j = s (355 + 321 * j) ∧ (s (355 + 321 * j) = 0 ∨ s (355 + 321 * j) = 1) := by
  have a := A.has j hj
  have g : gK m (c + 12) 4 j = m (c + 12) j := by
    unfold gK
    rw [wr_id (by omega)]
    exact if_pos ⟨by omega, by omega⟩
  unfold hkF
  rw [g]
  refine ⟨?_, a.1, by rw [← a.1]; exact a.2⟩
  rw [← a.1]
  rcases a.2 with e | e <;> rw [e] <;> rfl
theorem O_save (O : Od c h t p b q r) (A : Inv N mu c h t p b r) (hN : 1000000 ≤ N ∧ N ≤ 10000000) {j : Nat} (hj : j < 4) {mu1 : Mem} (e1 : mu1 = kpM (pshM mu c h) c j) :
    hkF (pshM mu c h) c j = svB (hdM mu1 r) r (trT mu1 r) j r 19 ∧ MWo mu1 r ∧ Inv (N + 20) (enM (svB (hdM mu1 r) r (trT mu1 r) j) r) c h t p b r ∧ enM (svB (hdM mu1 r) r (trT mu1 r) j) r r 7 = 0 := by
  obtain ⟨p1, p2, p3, p4, p5, p6, p7⟩ := A.psh O
  obtain ⟨eb, P, Lr⟩ := A.base
  have mw := A.mw (by omega)
  have O' := O
  obtain ⟨o1, o2, o3, o4, o5, o6⟩ := O'
  obtain ⟨k1, k2, k3⟩ := hk_e p1 hj
  have ek : kpM (pshM mu c h) c j = up (cp8 (pshM mu c h) (c + 2) (c + 13 + 9 * j) 8) (c + 12) j 1 := by
    unfold kpM; exact sKe (by omega) (by omega) (by omega)
  generalize hs' : (fun i : Int => if i = 355 + 321 * (j : Int) then 1 else if 355 + 321 * (j : Int) < i ∧ i ≤ 355 + 321 * (j : Int) + 320 then mu (r + 1) (i - (355 + 321 * (j : Int)) - 1 + 35) else mu (r + 1) i) = s'
  have s'e : ∀ i : Int, s' i = if i = 355 + 321 * (j : Int) then 1 else if 355 + 321 * (j : Int) < i ∧ i ≤ 355 + 321 * (j : Int) + 320 then mu (r + 1) (i - (355 + 321 * (j : Int)) - 1 + 35) else mu (r + 1) i := fun i => by rw [← hs']
  have sm : ∀ i : Int, i < 355 + 321 * (j : Int) ∨ 355 + 321 * (j : Int) + 320 < i → s' i = mu (r + 1) i := fun i hi => by rw [s'e, if_neg (by omega), if_neg (by omega)]
  rw [ek] at e1
  have off : ∀ (x : Nat) (i : Int), (x < c + 12 ∨ c + 12 < x) → (x ≤ c + 13 + 9 * j ∨ c + 13 + 9 * j + 8 < x) → mu1 x i = pshM mu c h x i := fun x i h1 h2 => by
    rw [e1, up_a _ _ _ _ (by omega), cp8_off i 8 (by omega)]
  have o12 : ∀ i : Int, mu1 (c + 12) i = if i = j then 1 else pshM mu c h (c + 12) i := fun i => by
    rw [e1, up_e]
    by_cases z : i = j
    · rw [if_pos ⟨rfl, z⟩, if_pos z]
    · rw [if_neg (by omega), if_neg z, cp8_off i 8 (by omega)]
  have eL : ∀ b', (b' + 8 < c + 12 ∨ c + 12 ≤ b') → (b' + 8 ≤ c + 13 + 9 * j ∨ c + 13 + 9 * j + 8 ≤ b') → ∀ k : Nat, lay mu1 b' k = lay (pshM mu c h) b' k := fun b' h1 h2 k => by
    funext i
    show (if _ then _ else _) = (if _ then _ else _)
    by_cases z : k ≤ 7
    · rw [if_pos z, if_pos z]; exact off _ _ (by omega) (by omega)
    · rw [if_neg z, if_neg z]
  have st : RS (N + 20) mu1 c s' := by
    obtain ⟨a1, a2, a3, a4, a5, a6, a7, a8⟩ := p1.mono (show N ≤ N + 20 by omega)
    refine RS.mk ?_ ?_ ?_ ?_ ?_ ?_ ?_ ?_
    · rw [off _ _ (by omega) (by omega), sm _ (by omega)]; exact a1
    · rw [off _ _ (by omega) (by omega), sm _ (by omega)]; exact a2
    · rw [off _ _ (by omega) (by omega), sm _ (by omega)]; exact a3
    · intro i h1 h2; rw [off _ _ (by omega) (by omega), sm _ (by omega)]; exact a4 i h1 h2
    · intro k ax h1 h2 ha
      rw [off _ _ (by omega) (by omega)] at h2
      rw [off _ _ (by omega) (by omega)]; exact a5 k ax h1 h2 ha
    · rw [off _ _ (by omega) (by omega)]
      exact a6.c (fun k i _ _ _ => by rw [eL _ (by omega) (by omega)]) (fun i h1 h2 => sm _ (by omega)) a3.2.1
    · intro k hk
      rw [o12]
      by_cases z : k = j
      · subst z
        rw [if_pos rfl, s'e, if_pos rfl]; exact ⟨rfl, Or.inr rfl⟩
      · rw [if_neg (by omega), sm _ (by omega)]; exact a7 k hk
    · intro k hk hh
      rw [o12] at hh
      rw [off _ _ (by omega) (by omega)]
      by_cases z : k = j
      · subst z
        refine a6.c (fun m i hm h1 h2 => ?_) (fun i h1 h2 => ?_) a3.2.1
        · rw [← EqL_cp8 (mu := pshM mu c h) (d := c + 2) (b := c + 13 + 9 * k) (by omega) m i hm h1 h2, lay_e hm, lay_e hm, e1, up_a _ _ _ _ (by omega)]
        · rw [s'e, if_neg (by omega), if_pos (by omega)]
          congr 1
          omega
      · rw [if_neg (by omega)] at hh
        refine (a8 k hk hh).c (fun m i _ _ _ => by rw [eL _ (by omega) (by omega)]) (fun i h1 h2 => sm _ (by omega)) a3.2.1
  have R1 : R32 mu1 := by rw [e1]; exact R32_up (R32_cp8 p6 _ _ 8) _ _ (by omega)
  have B1 : BA (N + 20) (rowsC c h b) mu1 := by
    rw [e1]
    exact ((p5.cp8 (fun k hk _ => Or.inl ⟨by omega, by omega⟩) 8 (by omega)).up _ _ (v := 1) (fun _ => by omega)).mono (by omega)
  obtain ⟨c1, c3⟩ := A.cls3 (M := N + 20) O (by omega) st (fun k i hk => off _ _ (by omega) (by omega)) B1 ⟨by rw [off _ _ (by omega) (by omega), p7 _ _ (by omega)], by rw [off _ _ (by omega) (by omega), p7 _ _ (by omega)]⟩ (fun i => by rw [off _ _ (by omega) (by omega), p7 _ _ (by omega)]) (fun k hk => by
    rw [eL _ (by omega) (by omega), lay_pshM A.1.hy.nxt o1])
  have h1r : hdM mu1 r (r + 1) = mu (r + 1) := funext fun i => by rw [hdM_x _ _ (by omega), c3 _ _ (by omega)]
  have eT : trT mu1 r = trS (mu (r + 1)) 35 := by rw [trT_off c3, trS_T]
  have row : ∀ (v : Int) (i : Int), ptT (up (hdM mu1 r) r 19 v) r (trT mu1 r) (r + 1) i = mu (r + 1) i := fun v i => by
    rw [ptT_1, show up (hdM mu1 r) r 19 v (r + 1) = mu (r + 1) from funext fun k => by rw [up_a _ _ _ _ (by omega), h1r], eT, ptS_self]
  have I := Inv.ref O A.1.hy.cnt.2 c1 c3 (m := svB (hdM mu1 r) r (trT mu1 r) j) (fun x i => by
    unfold svB svP
    have Q : R32 (up (ptT (up (hdM mu1 r) r 19 (hdM mu1 r (r + 1) (355 + 321 * (j : Int)))) r (trT mu1 r)) (r + 1) (355 + 321 * (j : Int)) 1) :=
      R32_up (R32_ptT (R32_up (hdM_R R1 r) _ _ (by rw [h1r]; omega)) (by rw [trT_off c3]; exact Lr.tb) (by omega)) _ _ (by omega)
    split <;> exact Q _ _) (fun x i h1 h2 => by
      unfold svB svP
      rw [if_neg (by omega), up_a _ _ _ _ h1, ptT_x _ _ _ h1, up_e, if_neg (by omega)]) (fun i h1 h2 => by
      unfold svB svP
      rw [s'e]
      by_cases z : 355 + 321 * (j : Int) < i ∧ i ≤ 355 + 321 * (j : Int) + 320
      · rw [if_pos ⟨rfl, z⟩, if_neg (by omega), if_pos z, up_e, if_neg (by omega), row]
      · rw [if_neg (by omega), up_e]
        by_cases y : i = 355 + 321 * (j : Int)
        · rw [if_pos ⟨rfl, y⟩, if_pos y]
        · rw [if_neg (by omega), if_neg y, if_neg z, row])
  refine ⟨?_, mw.off R1 c3, I.1, I.2⟩
  unfold svB svP
  rw [if_neg (by omega), up_a _ _ _ _ (by omega), ptT_x _ _ _ (by omega), up_e, if_pos ⟨rfl, rfl⟩, h1r, k1]
theorem O_save_f (x : Int) : (if svF x = 1 then 2 else svF x) = frF x 0 3 := by unfold svF frF; (repeat' split) <;> omega
theorem O_back_f (A : Inv N mu c h t p b r) (x : Int) : (if brF (hdM mu r) r x = 1 then 2 else if brF (hdM mu r) r x = 2 then 3 else brF (hdM mu r) r x) = flF8 mu c x := by
  unfold brF flF8
  rw [hdM_x _ _ (by omega)]
  by_cases hx : 0 ≤ x ∧ x ≤ 3
  · have k := hk_e A.1.st (j := x.toNat) (by omega)
    rw [show ((x.toNat : Nat) : Int) = x by omega] at k
    rw [if_pos hx, k.1]
    (repeat' split) <;> omega
  · rw [if_neg hx]
    (repeat' split) <;> omega
theorem O_back (O : Od c h t p b q r) (A : Inv N mu c h t p b r) (hN : 1000000 ≤ N ∧ N ≤ 10000000) {j : Nat} (hj : j < 4) (hf : flF8 mu c j = 0) {mu1 : Mem} (e1 : mu1 = stlM (tpM (pshM mu c h) c j) p c) :
    piG (lay mu1 (c + 2)) 1 (mu1 c 2).toNat + piG (lay mu1 (c + 2)) 2 (mu1 c 2).toNat = brB (hdM mu1 r) r j r 19 ∧ brF (hdM mu1 r) r j = brF (hdM mu r) r j ∧ MWo mu1 r ∧ Inv (N + 20) (enM (brB (hdM mu1 r) r j) r) c h t p b r ∧ enM (brB (hdM mu1 r) r j) r r 7 = 0 := by
  obtain ⟨p1, p2, p3, p4, p5, p6, p7⟩ := A.psh O
  obtain ⟨eb, P, Lr⟩ := A.base
  have mw := A.mw (by omega)
  have O' := O
  obtain ⟨o1, o2, o3, o4, o5, o6⟩ := O'
  have hk : mu (c + 12) j = 1 := by
    have k := hk_e A.1.st hj
    unfold flF8 at hf
    rw [if_pos (by omega), k.1] at hf
    rw [k.2.1]
    split at hf
    · assumption
    · omega
  have hk' : pshM mu c h (c + 12) j = 1 := by rw [p7 _ _ (by omega)]; exact hk
  have e2 : pshM mu c h c 2 = mu c 2 := p7 _ _ (by omega)
  have l1 := (p1.kep j hj hk').mono (show N ≤ N + 20 by omega) (Int.le_refl _)
  have off : ∀ (x : Nat) (i : Int), (x ≤ c + 2 ∨ c + 2 + 8 < x) → tpM (pshM mu c h) c j x i = pshM mu c h x i := fun x i hx => cp8_off i 8 (by omega)
  have eqL : EqL (lay (pshM mu c h) (c + 13 + 9 * j)) (lay (tpM (pshM mu c h) c j) (c + 2)) := EqL_cp8 (by omega)
  generalize hT : trS (mu (r + 1)) (355 + 321 * (j : Int) + 1) = T' at l1
  have st : RS (N + 20) (tpM (pshM mu c h) c j) c (ptS (mu (r + 1)) T') := by
    obtain ⟨a1, a2, a3, a4, a5, a6, a7, a8⟩ := p1.mono (show N ≤ N + 20 by omega)
    refine RS.mk ?_ ?_ ?_ ?_ ?_ ?_ ?_ ?_
    · rw [off _ _ (by omega), ptS_x _ _ (by omega)]; exact a1
    · rw [off _ _ (by omega), ptS_x _ _ (by omega)]; exact a2
    · rw [off _ _ (by omega), ptS_x _ _ (by omega)]; exact a3
    · intro i h1 h2; rw [off _ _ (by omega), ptS_x _ _ (by omega)]; exact a4 i h1 h2
    · intro k ax h1 h2 ha
      rw [off _ _ (by omega)] at h2
      rw [off _ _ (by omega)]; exact a5 k ax h1 h2 ha
    · rw [off _ _ (by omega)]
      have l2 := l1.cT (trS_ptS (mu (r + 1)) T') (l1.tb.pt _)
      exact l2.c eqL (fun _ _ _ => rfl) a3.2.1
    · intro k hk
      rw [off _ _ (by omega), ptS_x _ _ (by omega)]; exact a7 k hk
    · intro k hk hh
      rw [off _ _ (by omega)] at hh
      rw [off _ _ (by omega)]
      refine (a8 k hk hh).c (fun m i hm _ _ => by rw [lay_e hm, lay_e hm]; exact off _ _ (by omega)) (fun i h1 h2 => ptS_x _ _ (by omega)) a3.2.1
  have B1 : BA (N + 20) (rowsC c h b) (tpM (pshM mu c h) c j) := (p5.cp8 (fun k hk _ => Or.inl ⟨by omega, by omega⟩) 8 (by omega)).mono (by omega)
  obtain ⟨c1, c2, c3⟩ := A.cls2 (M := N + 20) O (by omega) st (fun k i hk => off _ _ (by omega)) B1 (R32_cp8 p6 _ _ 8)
  have lm : ∀ (k : Nat) (i : Int), k < 8 → lay mu1 (c + 2) k i = lay (tpM (pshM mu c h) c j) (c + 2) k i := fun k i hk => by
    rw [e1, lay_e hk, lay_e hk, stlM_x _ _ (by omega)]
  have c9 : mu1 c 2 = mu c 2 := by rw [e1, stlM_x _ _ (by omega), off _ _ (by omega), e2]
  rw [← e1] at c1 c2 c3
  have h1r : hdM mu1 r (r + 1) = mu (r + 1) := funext fun i => by rw [hdM_x _ _ (by omega), c3 _ _ (by omega)]
  have eO : trO (hdM mu1 r) r (355 + 321 * (j : Int) + 1) = T' := by rw [trS_O, h1r, hT]
  have sb : 0 ≤ smG (opn T') (mu c 2).toNat ∧ smG (opn T') (mu c 2).toNat ≤ (mu c 2).toNat := smG_b _ (fun i => by unfold opn; split <;> omega) _
  have eB : brB (hdM mu1 r) r j = ptT (up (hdM mu1 r) r 19 (smG (opn T') (mu c 2).toNat)) r T' := by
    unfold brB
    rw [eO, h1r, eb]
  have I := Inv.ref O A.1.hy.cnt.2 c1 c3 (m := brB (hdM mu1 r) r j) (by
    rw [eB]
    exact R32_ptT (R32_up (hdM_R c2 r) _ _ (by omega)) l1.tb (by omega)) (fun k i h1 h2 => by rw [eB, ptT_x _ _ _ h1, up_e, if_neg (by omega)]) (fun i h1 h2 => by
    rw [eB, ptT_1]
    unfold ptS
    split
    · rfl
    · rw [up_a _ _ _ _ (by omega), h1r])
  refine ⟨?_, ?_, mw.off c2 c3, I.1, I.2⟩
  · rw [c9, eB, ptT_x _ _ _ (by omega), up_e, if_pos ⟨rfl, rfl⟩]
    obtain ⟨⟨u, R⟩, -⟩ := l1
    exact piG_e (R.c (fun k i hk h1 h2 => by rw [lm k i hk]; exact eqL k i hk h1 h2) (fun _ _ _ _ _ => rfl)) _ (by omega)
  · unfold brF
    rw [h1r, hdM_x _ _ (by omega)]
/-- undo -/
theorem O_undo (O : Od c h t p b q r) (A : Inv N mu c h t p b r) (hN : 1000000 ≤ N ∧ N ≤ 10000000) (hf : fuF mu h = 0) {mu1 : Mem} (e1 : mu1 = stlM (popM mu c h) p c) :
    mu1 h 1 = mu1 r 4 - 1 ∧ mu1 r 4 ≠ 0 ∧ MWo mu1 r ∧ Inv (N + 20) (unM mu1 r) c h t p b r ∧ unM mu1 r r 7 = 0 := by
  have mw := A.mw (by omega)
  have O' := O
  obtain ⟨o1, o2, o3, o4, o5, o6⟩ := O'
  obtain ⟨A, R⟩ := A
  have cn := A.hy.cnt
  have nx := A.hy.nxt
  have n0 : 0 < mu r 4 := by
    unfold fuF at hf
    split at hf <;> omega
  obtain ⟨y1, y2⟩ := A.hy.pop o1 n0
  have pj := popJ_e nx
  have off : ∀ (x : Nat) (i : Int), x < c ∨ (c + 49 ≤ x ∧ x ≠ h) → popM mu c h x i = mu x i := fun x i hx => by
    unfold popM
    rw [up_a _ _ _ _ (by omega), up_a _ _ _ _ (by omega)]
    exact stC_off (by omega) i
  have Rp : R32 (popM mu c h) := by
    unfold popM
    have := R32_stC R (h + 2 + 49 * (popJ mu h).toNat) c
    exact R32_up (R32_up this _ _ (by omega)) _ _ (by omega)
  obtain ⟨c1, c2⟩ := CR.settle O y2 y1 (A.tt.off fun x i hx => off x i (by omega)) (by rw [off _ _ (by omega)]; exact A.kd) (A.ba.pop nx o1 (by omega)) Rp
  have c3 : ∀ (x : Nat) (i : Int), r ≤ x → mu1 x i = mu x i := fun x i hx => by rw [e1, stlM_x _ _ (by omega), off _ _ (by omega)]
  have ch : mu1 h 1 = mu h 1 - 1 := by rw [e1, stlM_x _ _ (by omega), popM_12.1]
  rw [← e1] at c1 c2
  have e4 := c3 r 4 (by omega)
  refine ⟨by rw [ch, e4]; omega, by rw [e4]; omega, mw.off c2 c3, ⟨?_, ?_⟩, ?_⟩
  · have u4 : unM mu1 r r 4 = mu r 4 - 1 := by unfold unM; rw [if_neg (by omega), if_pos ⟨rfl, rfl⟩, e4]
    have u6 : unM mu1 r r 6 = mu r 6 := by unfold unM; rw [if_neg (by omega), if_neg (by omega), if_neg (by omega), c3 _ _ (by omega)]
    rw [u4, u6]
    have uo : ∀ (x : Nat) (i : Int), x ≠ r → x ≠ r + 1 → unM mu1 r x i = mu1 x i := fun x i h1 h2 => by unfold unM; rw [if_neg (by omega), if_neg (by omega), if_neg (by omega)]
    refine (c1.mono (show N ≤ N + 20 by omega)).off O (fun x i hx => uo x i (by omega) (by omega)) (fun i h1 h2 => ?_) (fun i h1 h2 => by rw [uo _ _ (by omega) (by omega), c3 _ _ (by omega)]) (fun i h1 h2 => by rw [uo _ _ (by omega) (by omega), c3 _ _ (by omega)])
    unfold unM
    rw [if_pos ⟨rfl, h1, h2⟩, c3 _ _ (by omega), e4]
  · intro x i
    unfold unM
    have := c2 x i
    have := c2 (r + 2) (1639 * (mu1 r 4 - 1) + i)
    (repeat' split) <;> omega
  · unfold unM
    rw [if_neg (by omega), if_neg (by omega), if_pos ⟨rfl, rfl⟩]
theorem O_undo_f (A : Inv N mu c h t p b r) : fuF mu h = if mu r 4 = 0 then 3 else 0 := by
  have cn := A.1.hy.cnt
  unfold fuF
  (repeat' split) <;> omega
end OPS
