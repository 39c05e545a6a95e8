/-! A RUN OF COMMANDS: the two memories side by side -/
def JR (N : Int) (m w : Mem) (c h t b r : Nat) (s0 past : Int → Int) (np : Int) : Prop :=
  (RS N m c (w (r + 1))) ∧
  (Hy N m h (pushP past s0 np) (min (np + 1) 4)) ∧
  (TxR m t (w (r + 5)) (w r 6)) ∧
  (0 ≤ m t 5 ∧ m t 5 ≤ 8) ∧
  (BA N (rowsC c h b) m) ∧
  (R32 m) ∧
  (R32 w) ∧
  (∀ i : Int, 0 ≤ i → w (r + 2) i = past i) ∧
  (∀ i : Int, 0 ≤ i → i < 1639 → w (r + 3) i = s0 i) ∧
  (w r 4 = np) ∧
  (0 ≤ np ∧ np ≤ 4)
theorem JR.st {N : Int} {m w : Mem} {c h t b r : Nat} {s0 past : Int → Int} {np : Int} (h9 : JR N m w c h t b r s0 past np) : RS N m c (w (r + 1)) := h9.1
theorem JR.hy {N : Int} {m w : Mem} {c h t b r : Nat} {s0 past : Int → Int} {np : Int} (h9 : JR N m w c h t b r s0 past np) : Hy N m h (pushP past s0 np) (min (np + 1) 4) := h9.2.1
theorem JR.tt {N : Int} {m w : Mem} {c h t b r : Nat} {s0 past : Int → Int} {np : Int} (h9 : JR N m w c h t b r s0 past np) : TxR m t (w (r + 5)) (w r 6) := h9.2.2.1
theorem JR.kd {N : Int} {m w : Mem} {c h t b r : Nat} {s0 past : Int → Int} {np : Int} (h9 : JR N m w c h t b r s0 past np) : 0 ≤ m t 5 ∧ m t 5 ≤ 8 := h9.2.2.2.1
theorem JR.ba {N : Int} {m w : Mem} {c h t b r : Nat} {s0 past : Int → Int} {np : Int} (h9 : JR N m w c h t b r s0 past np) : BA N (rowsC c h b) m := h9.2.2.2.2.1
theorem JR.rc {N : Int} {m w : Mem} {c h t b r : Nat} {s0 past : Int → Int} {np : Int} (h9 : JR N m w c h t b r s0 past np) : R32 m := h9.2.2.2.2.2.1
theorem JR.rr {N : Int} {m w : Mem} {c h t b r : Nat} {s0 past : Int → Int} {np : Int} (h9 : JR N m w c h t b r s0 past np) : R32 w := h9.2.2.2.2.2.2.1
theorem JR.o2 {N : Int} {m w : Mem} {c h t b r : Nat} {s0 past : Int → Int} {np : Int} (h9 : JR N m w c h t b r s0 past np) : ∀ i : Int, 0 ≤ i → w (r + 2) i = past i := h9.2.2.2.2.2.2.2.1
theorem JR.o3 {N : Int} {m w : Mem} {c h t b r : Nat} {s0 past : Int → Int} {np : Int} (h9 : JR N m w c h t b r s0 past np) : ∀ i : Int, 0 ≤ i → i < 1639 → w (r + 3) i = s0 i := h9.2.2.2.2.2.2.2.2.1
theorem JR.o4 {N : Int} {m w : Mem} {c h t b r : Nat} {s0 past : Int → Int} {np : Int} (h9 : JR N m w c h t b r s0 past np) : w r 4 = np := h9.2.2.2.2.2.2.2.2.2.1
theorem JR.n4 {N : Int} {m w : Mem} {c h t b r : Nat} {s0 past : Int → Int} {np : Int} (h9 : JR N m w c h t b r s0 past np) : 0 ≤ np ∧ np ≤ 4 := h9.2.2.2.2.2.2.2.2.2.2
theorem JR.mk {N : Int} {m w : Mem} {c h t b r : Nat} {s0 past : Int → Int} {np : Int} (h_st : RS N m c (w (r + 1))) (h_hy : Hy N m h (pushP past s0 np) (min (np + 1) 4)) (h_tt : TxR m t (w (r + 5)) (w r 6)) (h_kd : 0 ≤ m t 5 ∧ m t 5 ≤ 8) (h_ba : BA N (rowsC c h b) m) (h_rc : R32 m) (h_rr : R32 w) (h_o2 : ∀ i : Int, 0 ≤ i → w (r + 2) i = past i) (h_o3 : ∀ i : Int, 0 ≤ i → i < 1639 → w (r + 3) i = s0 i) (h_o4 : w r 4 = np) (h_n4 : 0 ≤ np ∧ np ≤ 4) : JR N m w c h t b r s0 past np := ⟨h_st, h_hy, h_tt, h_kd, h_ba, h_rc, h_rr, h_o2, h_o3, h_o4, h_n4⟩
def jn (m w : Mem) (r : Nat) : Mem := fun x i => if x < r then m x i else w x i
section JJ
variable {N : Int} {m w : Mem} {c h t p b q r : Nat} {s0 past : Int → Int} {np : Int}
theorem JR.cr (O : Od c h t p b q r) (J : JR N m w c h t b r s0 past np) : CR N (stlM m p c) c h t p b (w (r + 1)) (pushP past s0 np) (w (r + 5)) (min (np + 1) 4) (w r 6) ∧ R32 (stlM m p c) :=
  CR.settle O J.st J.hy J.tt J.kd J.ba J.rc
theorem JR.fin (O : Od c h t p b q r) (J : JR N m w c h t b r s0 past np) {F : Mem} (R : R32 F) (hl : ∀ (x : Nat) (i : Int), x < r → F x i = stlM m p c x i) (hh : ∀ (x : Nat) (i : Int), r ≤ x → F x i = w x i) : Inv N (enM F r) c h t p b r ∧ enM F r r 7 = 0 :=
  Inv.fin O (J.cr O).1 J.n4 hl (fun i _ _ => hh _ i (by omega)) (fun i h1 => (hh _ i (by omega)).trans (J.o2 i h1)) (fun i h1 h2 => (hh _ i (by omega)).trans (J.o3 i h1 h2)) ((hh _ _ (by omega)).trans J.o4) (fun i _ _ => hh _ i (by omega)) (hh _ _ (by omega)) R
theorem JR.vi (O : Od c h t p b q r) (J : JR N m w c h t b r s0 past np) : Inv N (enM (jn (stlM m p c) w r) r) c h t p b r := by
  refine (J.fin O (fun x i => ?_) (fun x i hx => if_pos hx) (fun x i hx => if_neg (by omega))).1
  have a := (J.cr O).2 x i
  have b := J.rr x i
  split
  · exact a
  · exact b
/-- what the joined memory shows -/
theorem vi_r (m w : Mem) (p c r : Nat) : enM (jn (stlM m p c) w r) r (r + 1) = w (r + 1) := by
  funext i
  rw [enM_off (by omega) (by omega)]
  exact if_neg (by omega)
theorem vi_t (m w : Mem) (p c r : Nat) : trT (enM (jn (stlM m p c) w r) r) r = trT w r := by rw [trS_T, trS_T, vi_r]
theorem vi_c (O : Od c h t p b q r) (m w : Mem) {x : Nat} (hx : x < p) (i : Int) : enM (jn (stlM m p c) w r) r x i = m x i := by
  obtain ⟨o1, o2, o3, o4, o5, o6⟩ := O
  rw [enM_off (by omega) (by omega)]
  show (if _ then _ else _) = _
  rw [if_pos (by omega), stlM_x _ _ (by omega)]
theorem vi_l (O : Od c h t p b q r) (m w : Mem) : lay (enM (jn (stlM m p c) w r) r) (c + 2) = lay m (c + 2) := by
  have O' := O
  obtain ⟨o1, o2, o3, o4, o5, o6⟩ := O'
  funext k i
  show (if _ then _ else _) = (if _ then _ else _)
  by_cases z : k ≤ 7
  · rw [if_pos z, if_pos z]; exact vi_c O m w (by omega) i
  · rw [if_neg z, if_neg z]
theorem JR.base (J : JR N m w c h t b r s0 past np) (hN : 0 ≤ N) : w (r + 1) 2 = m c 2 ∧ (0 ≤ m c 2 ∧ m c 2 ≤ 16) ∧ LR N (lay m (c + 2)) (trT w r) (m c 2) ∧ Bd N (lay m (c + 2)) := by
  rw [trS_T]
  exact ⟨J.st.pan.1.symm, J.st.pan.2, J.st.lyt, J.ba.lay hN fun k hk => Or.inl ⟨by omega, by omega⟩⟩
theorem JR.mw (J : JR N m w c h t b r s0 past np) (hN : 0 ≤ N ∧ N ≤ 10000000) : MWo w r := by
  obtain ⟨e, P, L, B⟩ := J.base hN.1
  have tt := J.tt
  unfold TxR at tt
  have n4 := J.n4
  have o4 := J.o4
  exact ⟨J.rr, L.tb.mono hN.2, by omega, by omega, tt.2.1⟩
theorem JR.wo (J : JR N m w c h t b r s0 past np) (hN : 0 ≤ N ∧ N ≤ 10000000) {p : Nat} (hp : 0 ≤ m p 9 ∧ m p 9 ≤ 31) : Wo m c h t p := by
  obtain ⟨e, P, L, B⟩ := J.base hN.1
  have tt := J.tt
  unfold TxR at tt
  have cn := J.hy.cnt
  exact ⟨J.rc, B.mono (by omega), P, J.hy.nxt, by omega, by omega, hp⟩
theorem JR.mono {M : Int} (J : JR N m w c h t b r s0 past np) (hN : N ≤ M) : JR M m w c h t b r s0 past np := by
  obtain ⟨a1, a2, a3, a4, a5, a6, a7, a8, a9, a10, a11⟩ := J
  exact JR.mk (a1.mono hN) (a2.mono hN) a3 a4 (a5.mono hN) a6 a7 a8 a9 a10 a11
/-- a step: the class changes its state, the reference its row -/
theorem JR.put {M : Int} {m' w' : Mem} (O : Od c h t p b q r) (J : JR N m w c h t b r s0 past np) (hN : N ≤ M) (st : RS M m' c (w' (r + 1))) (eo : ∀ (x : Nat) (i : Int), x < c ∨ c + 49 ≤ x → m' x i = m x i) (B : BA M (rowsC c h b) m') (R : R32 m') (R' : R32 w') (e' : ∀ (x : Nat) (i : Int), x ≠ r + 1 → ¬ (x = r ∧ i = 19) → w' x i = w x i) : JR M m' w' c h t b r s0 past np := by
  obtain ⟨o1, o2, o3, o4, o5, o6⟩ := O
  obtain ⟨a1, a2, a3, a4, a5, a6, a7, a8, a9, a10, a11⟩ := J
  refine JR.mk st ((a2.mono hN).off (fun x i h1 h2 => eo x i (by omega)) (fun _ _ _ => rfl)) ?_ ?_ B R R' (fun i h1 => ?_) (fun i h1 h2 => ?_) ?_ a11
  · unfold TxR at a3 ⊢
    rw [eo t 2 (by omega), e' r 6 (by omega) (by omega)]
    refine ⟨a3.1, a3.2.1, fun i h1 h2 => ?_⟩
    rw [eo (t + 1) i (by omega), e' (r + 5) i (by omega) (by omega)]
    exact a3.2.2 i h1 h2
  · rw [eo t 5 (by omega)]; exact a4
  · rw [e' _ _ (by omega) (by omega)]; exact a8 i h1
  · rw [e' _ _ (by omega) (by omega)]; exact a9 i h1 h2
  · rw [e' _ _ (by omega) (by omega)]; exact a10
/-- a step: a text is read -/
theorem JR.tx (O : Od c h t p b q r) (J : JR N m w c h t b r s0 past np) {u f k u' : Int} {X Y : Int → Int} (hu : -2147483648 ≤ u ∧ u ≤ 2147483647) (hf : -2147483648 ≤ f ∧ f ≤ 2147483647) (hk : 0 ≤ k ∧ k ≤ 8) (hX : NB X) (hu' : -2147483648 ≤ u' ∧ u' ≤ 2147483647) (hY : NB Y) : JR N (txM m t u f k X) (mxM w r u' Y) c h t b r s0 past np := by
  obtain ⟨o1, o2, o3, o4, o5, o6⟩ := O
  obtain ⟨a1, a2, a3, a4, a5, a6, a7, a8, a9, a10, a11⟩ := J
  have eo : ∀ (x : Nat) (i : Int), (x = t → i = 2) → x ≠ t + 2 → txM m t u f k X x i = m x i := fun x i h1 h2 => by
    unfold txM
    by_cases z : x = t
    · have := h1 z
      rw [if_pos z, if_neg (by omega), if_neg (by omega), if_neg (by omega)]
    · rw [if_neg z, if_neg h2]
  have ew : ∀ (x : Nat) (i : Int), ¬ (x = r ∧ i = 20) → x ≠ r + 16 → mxM w r u' Y x i = w x i := fun x i h1 h2 => by
    unfold mxM
    rw [if_neg h1, if_neg h2]
  have e1 : mxM w r u' Y (r + 1) = w (r + 1) := funext fun i => ew _ _ (by omega) (by omega)
  have e5 : mxM w r u' Y (r + 5) = w (r + 5) := funext fun i => ew _ _ (by omega) (by omega)
  refine JR.mk ?_ (a2.off (fun x i h1 h2 => eo x i (by omega) (by omega)) (fun _ _ _ => rfl)) ?_ ?_ (a5.off fun x i hx => eo x i (by unfold rowsC at hx; omega) (by unfold rowsC at hx; omega)) (fun x i => ?_) (fun x i => ?_) (fun i h1 => ?_) (fun i h1 h2 => ?_) ?_ a11
  · rw [e1]
    exact a1.off (fun x i h1 h2 => eo x i (by omega) (by omega)) (fun _ _ _ => rfl)
  · unfold TxR at a3 ⊢
    rw [eo t 2 (fun _ => rfl) (by omega), ew r 6 (by omega) (by omega), e5]
    refine ⟨a3.1, a3.2.1, fun i h1 h2 => ?_⟩
    rw [eo (t + 1) i (by omega) (by omega)]
    exact a3.2.2 i h1 h2
  · rw [show txM m t u f k X t 5 = k from tx_5]; exact hk
  · have := a6 x i
    have := hX i
    unfold txM
    (repeat' split) <;> omega
  · have := a7 x i
    have := hY i
    unfold mxM
    (repeat' split) <;> omega
  · rw [ew _ _ (by omega) (by omega)]; exact a8 i h1
  · rw [ew _ _ (by omega) (by omega)]; exact a9 i h1 h2
  · rw [ew _ _ (by omega) (by omega)]; exact a10
end JJ
