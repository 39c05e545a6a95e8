/-! THE INVARIANT: the class's memory and what the reference holds -/
def TxR (mu : Mem) (t : Nat) (tx : Int → Int) (nt : Int) : Prop := mu t 2 = nt ∧ (0 ≤ nt ∧ nt ≤ 150) ∧ ∀ i : Int, 0 ≤ i → i < nt → mu (t + 1) i = tx i ∧ 0 ≤ tx i ∧ tx i ≤ 127
def RK (L : Mem) (r : Int → Nat) : Prop := (∀ x : Int, r x ≤ 16) ∧ ∀ t : Int, 16 ≤ t → t < 47 → 32 ≤ L 0 t → L 0 t < 47 → r t < r (L 0 t)
def CR (N : Int) (mu : Mem) (c h t p b : Nat) (s past tx : Int → Int) (np nt : Int) : Prop :=
  (RS N mu c s) ∧
  (Hy N mu h past np) ∧
  (TxR mu t tx nt) ∧
  (0 ≤ mu t 5 ∧ mu t 5 ≤ 8) ∧
  (∃ rk : Int → Nat, RK (lay mu (c + 2)) rk ∧ PlE (lay mu (c + 2)) (mu (c + 1)) (mu c 0) (mu c 1) rk (pl mu p)) ∧
  (BA N (rowsC c h b) mu)
theorem CR.st {N : Int} {mu : Mem} {c h t p b : Nat} {s past tx : Int → Int} {np nt : Int} (h9 : CR N mu c h t p b s past tx np nt) : RS N mu c s := h9.1
theorem CR.hy {N : Int} {mu : Mem} {c h t p b : Nat} {s past tx : Int → Int} {np nt : Int} (h9 : CR N mu c h t p b s past tx np nt) : Hy N mu h past np := h9.2.1
theorem CR.tt {N : Int} {mu : Mem} {c h t p b : Nat} {s past tx : Int → Int} {np nt : Int} (h9 : CR N mu c h t p b s past tx np nt) : TxR mu t tx nt := h9.2.2.1
theorem CR.kd {N : Int} {mu : Mem} {c h t p b : Nat} {s past tx : Int → Int} {np nt : Int} (h9 : CR N mu c h t p b s past tx np nt) : 0 ≤ mu t 5 ∧ mu t 5 ≤ 8 := h9.2.2.2.1
theorem CR.pln {N : Int} {mu : Mem} {c h t p b : Nat} {s past tx : Int → Int} {np nt : Int} (h9 : CR N mu c h t p b s past tx np nt) : ∃ rk : Int → Nat, RK (lay mu (c + 2)) rk ∧ PlE (lay mu (c + 2)) (mu (c + 1)) (mu c 0) (mu c 1) rk (pl mu p) := h9.2.2.2.2.1
theorem CR.ba {N : Int} {mu : Mem} {c h t p b : Nat} {s past tx : Int → Int} {np nt : Int} (h9 : CR N mu c h t p b s past tx np nt) : BA N (rowsC c h b) mu := h9.2.2.2.2.2
theorem CR.mk {N : Int} {mu : Mem} {c h t p b : Nat} {s past tx : Int → Int} {np nt : Int} (h_st : RS N mu c s) (h_hy : Hy N mu h past np) (h_tt : TxR mu t tx nt) (h_kd : 0 ≤ mu t 5 ∧ mu t 5 ≤ 8) (h_pln : ∃ rk : Int → Nat, RK (lay mu (c + 2)) rk ∧ PlE (lay mu (c + 2)) (mu (c + 1)) (mu c 0) (mu c 1) rk (pl mu p)) (h_ba : BA N (rowsC c h b) mu) : CR N mu c h t p b s past tx np nt := ⟨h_st, h_hy, h_tt, h_kd, h_pln, h_ba⟩
def Od (c h t p b q r : Nat) : Prop := c + 49 ≤ h ∧ h + 198 ≤ t ∧ t + 3 ≤ p ∧ p + 14 ≤ b ∧ b + 9 ≤ q ∧ q + 14 ≤ r
theorem RS.leB {N : Int} {mu : Mem} {c : Nat} {s : Int → Int} (A : RS N mu c s) : LeB (mu (c + 1)) := fun p ax h1 h2 ha => by
  have := A.lst (2 * p + ax) (by omega) (by omega)
  omega
theorem RS.leL {N : Int} {mu : Mem} {c : Nat} {s : Int → Int} (A : RS N mu c s) : LeL (mu (c + 1)) (lay mu (c + 2)) := fun p ax h1 h2 ha h0 => by
  refine A.low p ax h1 ?_ ha
  rcases Int.lt_or_le p (mu c 2) with z | z
  · exact z
  · exact absurd (A.lyt.cl p z h2) h0
theorem VC.rows {P Q : Mem} (e : ∀ k : Nat, k < 14 → Q k = P k) : VC Q = VC P := by funext x ax; unfold VC; rw [e 4 (by omega)]
theorem BE.rows {L P Q : Mem} (e : ∀ k : Nat, k < 14 → Q k = P k) {x : Int} (A : BE P L x) : BE Q L x := by
  have v := VC.rows e
  have l : leC Q L x = leC P L x := by unfold leC; rw [v]
  have sh : shC Q L x = shC P L x := by unfold shC; rw [l, e 6 (by omega)]
  have tg : tgC Q L x = tgC P L x := by unfold tgC; rw [l, e 6 (by omega)]
  unfold BE at A ⊢
  rw [e 5 (by omega), e 6 (by omega), e 7 (by omega), e 8 (by omega), sh, tg]
  exact A
theorem tgC.rows {L P Q : Mem} (e : ∀ k : Nat, k < 14 → Q k = P k) (x : Int) : tgC Q L x = tgC P L x := by
  have v := VC.rows e
  have l : leC Q L x = leC P L x := by unfold leC; rw [v]
  unfold tgC; rw [l, e 6 (by omega)]
theorem PlE.rows {L P Q : Mem} {f : Int → Int} {w h : Int} {r : Int → Nat} (e : ∀ k : Nat, k < 14 → Q k = P k) (A : PlE L f w h r P) : PlE L f w h r Q := by
  obtain ⟨⟨a1, a2, a3, a4⟩, b, c, d1, d2⟩ := A
  have e0 := e 0 (by omega)
  have e2 := e 2 (by omega)
  refine PlE.mk (Pl0.mk ?_ ?_ ?_ ?_) ?_ ?_ ?_ ?_
  · unfold MoW at a1 ⊢
    rw [e 1 (by omega)]; exact a1
  · obtain ⟨o1, o2, o3, o4, o5, o6, o7, o8, o9, o10⟩ := a2
    refine Ord.mk ?_ ?_ ?_ ?_ ?_ ?_ ?_ ?_ ?_ ?_
    · rw [e0]; exact o1
    · rw [e0, e2]; exact o2
    · rw [e0, e2]; exact o3
    · rw [e0, e2]; exact o4
    · rw [e0, e2]; exact o5
    · rw [e0]; exact o6
    · rw [e0, e2]; exact o7
    · rw [e0, e2]; exact o8
    · rw [e0, e2]; exact o9
    · rw [e0, e2]; exact o10
  · rw [VC.rows e]; exact a3
  · obtain ⟨t1, t2⟩ := a4
    refine Tp.mk ?_ ?_
    · rw [e 5 (by omega), e 6 (by omega), e 7 (by omega)]; exact t1
    · rw [e 5 (by omega), e 6 (by omega), e 7 (by omega)]; exact t2
  · exact fun x h1 h2 => BE.rows e (b x h1 h2)
  · intro x hx
    have := c x hx
    unfold Bx at this ⊢
    rw [e 5 (by omega), e 6 (by omega), e 7 (by omega)]
    exact this
  · rw [e0, e2, d1]
    congr 1
    funext k
    rw [tgC.rows e]
  · rw [e0, e2, e 6 (by omega), d2]
/-- the plan is laid anew -/
theorem CR.settle {N : Int} {m : Mem} {c h t p b q r : Nat} {s past tx : Int → Int} {np nt : Int} (O : Od c h t p b q r) (st : RS N m c s) (hy : Hy N m h past np) (tt : TxR m t tx nt) (kd : 0 ≤ m t 5 ∧ m t 5 ≤ 8) (ba : BA N (rowsC c h b) m) (R : R32 m) :
    CR N (stlM m p c) c h t p b s past tx np nt ∧ R32 (stlM m p c) := by
  obtain ⟨o1, o2, o3, o4, o5, o6⟩ := O
  have off : ∀ (x : Nat) (i : Int), x < p ∨ p + 14 ≤ x → stlM m p c x i = m x i := fun x i hx => putK_off hx i
  have W := st.lyt.rl.choose_spec.wf
  obtain ⟨rk, k1, k2⟩ := W.rankB
  have Rp : R32 (Jvm.Pilot.CDockTreeLaw_law_r5321_3fbd41.pl m p) := fun k i => by
    unfold Jvm.Pilot.CDockTreeLaw_law_r5321_3fbd41.pl
    split
    · exact R _ _
    · omega
  have E := wkF_e (P := Jvm.Pilot.CDockTreeLaw_law_r5321_3fbd41.pl m p) W st.lyt.fu st.leB st.leL st.lyt.vl Rp k1 k2 (w := m c 0) (h := m c 1) (by have := st.wid; omega) (by have := st.hig; omega)
  have eL : lay (stlM m p c) (c + 2) = lay m (c + 2) := by
    funext k i
    show (if _ then _ else _) = (if _ then _ else _)
    by_cases z : k ≤ 7
    · rw [if_pos z, if_pos z]; exact off _ _ (by omega)
    · rw [if_neg z, if_neg z]
  have ef : stlM m p c (c + 1) = m (c + 1) := funext fun i => off _ _ (by omega)
  have ep : ∀ k : Nat, k < 14 → Jvm.Pilot.CDockTreeLaw_law_r5321_3fbd41.pl (stlM m p c) p k = wkF (Jvm.Pilot.CDockTreeLaw_law_r5321_3fbd41.pl m p) (lay m (c + 2)) (m (c + 1)) (m c 0) (m c 1) k := fun k hk => funext fun i => by
    show (if _ then _ else _) = _
    rw [if_pos hk]
    exact putK_k hk i
  refine ⟨?_, R32_putK R (wkF_R Rp _ _ _ _)⟩
  first | with_reducible refine CR.mk ?_ ?_ ?_ ?_ ?_ ?_ | with_reducible refine Hy.mk ?_ ?_ ?_ | with_reducible refine RS.mk ?_ ?_ ?_ ?_ ?_ ?_ ?_ ?_ | with_reducible refine LR.mk ?_ ?_ ?_ ?_ ?_ | with_reducible refine BxI.mk ?_ ?_ ?_ ?_ ?_ ?_ | with_reducible refine WkI.mk ?_ ?_ ?_ ?_ ?_ ?_ | with_reducible refine PlE.mk ?_ ?_ ?_ ?_ ?_ | with_reducible refine Pl0.mk ?_ ?_ ?_ ?_ | with_reducible refine Tp.mk ?_ ?_ | with_reducible refine Vl.mk ?_ ?_ | with_reducible refine Lk.mk ?_ | with_reducible refine RfQ.mk ?_ ?_ ?_ ?_ | with_reducible refine ShQ.mk ?_ ?_ ?_ ?_ | with_reducible refine Que.mk ?_ ?_ ?_ ?_ ?_ ?_ ?_ ?_ | with_reducible refine QuI.mk ?_ ?_ ?_ ?_ ?_ ?_ | with_reducible refine Ord.mk ?_ ?_ ?_ ?_ ?_ ?_ ?_ ?_ ?_ ?_ | with_reducible refine LnI.mk ?_ ?_ ?_ ?_ ?_ ?_ ?_ ?_ ?_ ?_ ?_ ?_ ?_ ?_ ?_ ?_ ?_ | with_reducible refine Rl.mk ?_ ?_ ?_ ?_ ?_ ?_ ?_ ?_ ?_ ?_ ?_ ?_ ?_ | with_reducible refine Wf.mk ?_ ?_ ?_ ?_ ?_ ?_ ?_ ?_ ?_ ?_ ?_ | with_reducible refine Mb.mk ?_ ?_ ?_ ?_ ?_ | constructor
  · exact st.off (fun x i h1 h2 => off x i (by omega)) (fun _ _ _ => rfl)
  · exact hy.off (fun x i h1 h2 => off x i (by omega)) (fun _ _ _ => rfl)
  · unfold TxR
    rw [off _ _ (by omega)]
    exact ⟨tt.1, tt.2.1, fun i h1 h2 => by rw [off _ _ (by omega)]; exact tt.2.2 i h1 h2⟩
  · rw [off _ _ (by omega)]; exact kd
  · refine ⟨rk, ?_, ?_⟩
    · rw [eL]; exact ⟨k1, k2⟩
    · rw [eL, ef, off _ _ (by omega), off _ _ (by omega)]
      exact PlE.rows ep E
  · exact ba.off (fun x i hx => off x i (by unfold rowsC at hx; omega))
/-- nothing of the class is touched -/
theorem CR.off {N : Int} {mu mu' : Mem} {c h t p b q r : Nat} {s past tx s' past' tx' : Int → Int} {np nt : Int} (O : Od c h t p b q r) (A : CR N mu c h t p b s past tx np nt) (e : ∀ (x : Nat) (i : Int), x < r → mu' x i = mu x i)
    (hs : ∀ i : Int, 0 ≤ i → i < 1639 → s' i = s i) (hp : ∀ i : Int, 0 ≤ i → i < 1639 * np → past' i = past i) (ht : ∀ i : Int, 0 ≤ i → i < nt → tx' i = tx i) : CR N mu' c h t p b s' past' tx' np nt := by
  obtain ⟨o1, o2, o3, o4, o5, o6⟩ := O
  obtain ⟨a1, a2, a3, a4, ⟨rk, a5, a6⟩, a7⟩ := A
  have eL : lay mu' (c + 2) = lay mu (c + 2) := by
    funext k i
    show (if _ then _ else _) = (if _ then _ else _)
    by_cases z : k ≤ 7
    · rw [if_pos z, if_pos z]; exact e _ _ (by omega)
    · rw [if_neg z, if_neg z]
  have ep : Jvm.Pilot.CDockTreeLaw_law_r5321_3fbd41.pl mu' p = Jvm.Pilot.CDockTreeLaw_law_r5321_3fbd41.pl mu p := by
    funext k i
    show (if _ then _ else _) = (if _ then _ else _)
    by_cases z : k < 14
    · rw [if_pos z, if_pos z]; exact e _ _ (by omega)
    · rw [if_neg z, if_neg z]
  have ef : mu' (c + 1) = mu (c + 1) := funext fun i => e _ _ (by omega)
  first | with_reducible refine CR.mk ?_ ?_ ?_ ?_ ?_ ?_ | with_reducible refine Hy.mk ?_ ?_ ?_ | with_reducible refine RS.mk ?_ ?_ ?_ ?_ ?_ ?_ ?_ ?_ | with_reducible refine LR.mk ?_ ?_ ?_ ?_ ?_ | with_reducible refine BxI.mk ?_ ?_ ?_ ?_ ?_ ?_ | with_reducible refine WkI.mk ?_ ?_ ?_ ?_ ?_ ?_ | with_reducible refine PlE.mk ?_ ?_ ?_ ?_ ?_ | with_reducible refine Pl0.mk ?_ ?_ ?_ ?_ | with_reducible refine Tp.mk ?_ ?_ | with_reducible refine Vl.mk ?_ ?_ | with_reducible refine Lk.mk ?_ | with_reducible refine RfQ.mk ?_ ?_ ?_ ?_ | with_reducible refine ShQ.mk ?_ ?_ ?_ ?_ | with_reducible refine Que.mk ?_ ?_ ?_ ?_ ?_ ?_ ?_ ?_ | with_reducible refine QuI.mk ?_ ?_ ?_ ?_ ?_ ?_ | with_reducible refine Ord.mk ?_ ?_ ?_ ?_ ?_ ?_ ?_ ?_ ?_ ?_ | with_reducible refine LnI.mk ?_ ?_ ?_ ?_ ?_ ?_ ?_ ?_ ?_ ?_ ?_ ?_ ?_ ?_ ?_ ?_ ?_ | with_reducible refine Rl.mk ?_ ?_ ?_ ?_ ?_ ?_ ?_ ?_ ?_ ?_ ?_ ?_ ?_ | with_reducible refine Wf.mk ?_ ?_ ?_ ?_ ?_ ?_ ?_ ?_ ?_ ?_ ?_ | with_reducible refine Mb.mk ?_ ?_ ?_ ?_ ?_ | constructor
  · exact a1.off (fun x i h1 h2 => e x i (by omega)) hs
  · exact a2.off (fun x i h1 h2 => e x i (by omega)) hp
  · unfold TxR
    rw [e _ _ (by omega)]
    exact ⟨a3.1, a3.2.1, fun i h1 h2 => by rw [e _ _ (by omega), ht i h1 h2]; exact a3.2.2 i h1 h2⟩
  · rw [e _ _ (by omega)]; exact a4
  · refine ⟨rk, ?_, ?_⟩
    · rw [eL]; exact a5
    · rw [eL, ef, ep, e _ _ (by omega), e _ _ (by omega)]; exact a6
  · exact a7.off (fun x i hx => e x i (by unfold rowsC at hx; omega))
theorem CR.mono {N M : Int} {mu : Mem} {c h t p b : Nat} {s past tx : Int → Int} {np nt : Int} (A : CR N mu c h t p b s past tx np nt) (hN : N ≤ M) : CR M mu c h t p b s past tx np nt := by
  obtain ⟨a1, a2, a3, a4, a5, a7⟩ := A
  first | with_reducible refine CR.mk ?_ ?_ ?_ ?_ ?_ ?_ | with_reducible refine Hy.mk ?_ ?_ ?_ | with_reducible refine RS.mk ?_ ?_ ?_ ?_ ?_ ?_ ?_ ?_ | with_reducible refine LR.mk ?_ ?_ ?_ ?_ ?_ | with_reducible refine BxI.mk ?_ ?_ ?_ ?_ ?_ ?_ | with_reducible refine WkI.mk ?_ ?_ ?_ ?_ ?_ ?_ | with_reducible refine PlE.mk ?_ ?_ ?_ ?_ ?_ | with_reducible refine Pl0.mk ?_ ?_ ?_ ?_ | with_reducible refine Tp.mk ?_ ?_ | with_reducible refine Vl.mk ?_ ?_ | with_reducible refine Lk.mk ?_ | with_reducible refine RfQ.mk ?_ ?_ ?_ ?_ | with_reducible refine ShQ.mk ?_ ?_ ?_ ?_ | with_reducible refine Que.mk ?_ ?_ ?_ ?_ ?_ ?_ ?_ ?_ | with_reducible refine QuI.mk ?_ ?_ ?_ ?_ ?_ ?_ | with_reducible refine Ord.mk ?_ ?_ ?_ ?_ ?_ ?_ ?_ ?_ ?_ ?_ | with_reducible refine LnI.mk ?_ ?_ ?_ ?_ ?_ ?_ ?_ ?_ ?_ ?_ ?_ ?_ ?_ ?_ ?_ ?_ ?_ | with_reducible refine Rl.mk ?_ ?_ ?_ ?_ ?_ ?_ ?_ ?_ ?_ ?_ ?_ ?_ ?_ | with_reducible refine Wf.mk ?_ ?_ ?_ ?_ ?_ ?_ ?_ ?_ ?_ ?_ ?_ | with_reducible refine Mb.mk ?_ ?_ ?_ ?_ ?_ | constructor
  · exact a1.mono hN
  · exact a2.mono hN
  · exact a3
  · exact a4
  · exact a5
  · exact a7.mono hN
theorem CR.bd {N : Int} {mu : Mem} {c h t p b : Nat} {s past tx : Int → Int} {np nt : Int} (A : CR N mu c h t p b s past tx np nt) (hN : 0 ≤ N) : Bd N (lay mu (c + 2)) ∧ Bd N (lay mu b) ∧ ∀ j : Nat, j < 4 → Bd N (lay mu (c + 13 + 9 * j)) := by
  refine ⟨A.ba.lay hN fun k hk => Or.inl ⟨by omega, by omega⟩, A.ba.lay hN fun k hk => Or.inr (Or.inr ⟨by omega, by omega⟩), fun j hj => A.ba.lay hN fun k hk => Or.inl ⟨by omega, by omega⟩⟩
theorem CR.wo {N : Int} {mu : Mem} {c h t p b : Nat} {s past tx : Int → Int} {np nt : Int} (A : CR N mu c h t p b s past tx np nt) (hN : 0 ≤ N ∧ N ≤ 16000000) (R : R32 mu) : Wo mu c h t p := by
  obtain ⟨rk, k1, k2⟩ := A.pln
  have n0 := k2.p0.od.n0
  have e9 : Jvm.Pilot.CDockTreeLaw_law_r5321_3fbd41.pl mu p 0 9 = mu p 9 := rfl
  rw [e9] at n0
  have c1 := A.hy.cnt
  have t1 := A.tt
  unfold TxR at t1
  exact ⟨R, (A.bd hN.1).1.mono hN.2, A.st.pan.2, A.hy.nxt, by omega, by omega, n0⟩
/-- both sides at once -/
def Inv (N : Int) (mu : Mem) (c h t p b r : Nat) : Prop := CR N mu c h t p b (mu (r + 1)) (mu (r + 2)) (mu (r + 5)) (mu r 4) (mu r 6) ∧ R32 mu
theorem Inv.mw {N : Int} {mu : Mem} {c h t p b r : Nat} (A : Inv N mu c h t p b r) (hN : 0 ≤ N ∧ N ≤ 10000000) : MWo mu r := by
  obtain ⟨A, R⟩ := A
  have c1 := A.hy.cnt
  have t1 := A.tt
  unfold TxR at t1
  have p1 := A.st.pan
  refine ⟨R, ?_, by omega, by omega, by omega⟩
  rw [trS_T]
  exact A.st.lyt.tb.mono hN.2
/-- a new layout for the state -/
theorem RS.lay {N M : Int} {m : Mem} {c : Nat} {s s' : Int → Int} {L' : Mem} (A : RS N m c s) (hN : N ≤ M) (hL : LR M L' (trS s' 35) (m c 2)) (hs : ∀ i : Int, 0 ≤ i → i < 1639 → (i < 35 ∨ 355 ≤ i) → s' i = s i) : RS M (putL m (c + 2) L') c s' := by
  have off : ∀ (x : Nat) (i : Int), x < c + 3 ∨ c + 11 ≤ x → putL m (c + 2) L' x i = m x i := fun x i hx => by
    show (if _ then _ else _) = _
    rw [if_neg (by omega)]
  obtain ⟨a1, a2, a3, a4, a5, a6, a7, a8⟩ := A
  have eq : EqL L' (Jvm.Pilot.CDockTreeLaw_law_r5321_3fbd41.lay (putL m (c + 2) L') (c + 2)) := fun k i hk h1 h2 => by
    rw [lay_e hk]
    show (if _ then _ else _) = _
    rw [if_pos (by omega)]
    congr 1
    omega
  first | with_reducible refine CR.mk ?_ ?_ ?_ ?_ ?_ ?_ | with_reducible refine Hy.mk ?_ ?_ ?_ | with_reducible refine RS.mk ?_ ?_ ?_ ?_ ?_ ?_ ?_ ?_ | with_reducible refine LR.mk ?_ ?_ ?_ ?_ ?_ | with_reducible refine BxI.mk ?_ ?_ ?_ ?_ ?_ ?_ | with_reducible refine WkI.mk ?_ ?_ ?_ ?_ ?_ ?_ | with_reducible refine PlE.mk ?_ ?_ ?_ ?_ ?_ | with_reducible refine Pl0.mk ?_ ?_ ?_ ?_ | with_reducible refine Tp.mk ?_ ?_ | with_reducible refine Vl.mk ?_ ?_ | with_reducible refine Lk.mk ?_ | with_reducible refine RfQ.mk ?_ ?_ ?_ ?_ | with_reducible refine ShQ.mk ?_ ?_ ?_ ?_ | with_reducible refine Que.mk ?_ ?_ ?_ ?_ ?_ ?_ ?_ ?_ | with_reducible refine QuI.mk ?_ ?_ ?_ ?_ ?_ ?_ | with_reducible refine Ord.mk ?_ ?_ ?_ ?_ ?_ ?_ ?_ ?_ ?_ ?_ | with_reducible refine LnI.mk ?_ ?_ ?_ ?_ ?_ ?_ ?_ ?_ ?_ ?_ ?_ ?_ ?_ ?_ ?_ ?_ ?_ | with_reducible refine Rl.mk ?_ ?_ ?_ ?_ ?_ ?_ ?_ ?_ ?_ ?_ ?_ ?_ ?_ | with_reducible refine Wf.mk ?_ ?_ ?_ ?_ ?_ ?_ ?_ ?_ ?_ ?_ ?_ | with_reducible refine Mb.mk ?_ ?_ ?_ ?_ ?_ | constructor
  · rw [off _ _ (by omega), hs 0 (by omega) (by omega) (by omega)]; exact a1
  · rw [off _ _ (by omega), hs 1 (by omega) (by omega) (by omega)]; exact a2
  · rw [off _ _ (by omega), hs 2 (by omega) (by omega) (by omega)]; exact a3
  · intro i h1 h2
    rw [off _ _ (by omega), hs _ (by omega) (by omega) (by omega)]; exact a4 i h1 h2
  · intro p ax h1 h2 ha
    rw [off _ _ (by omega)] at h2
    rw [off _ _ (by omega)]; exact a5 p ax h1 h2 ha
  · rw [off _ _ (by omega)]
    exact hL.c eq (fun _ _ _ => rfl) a3.2.1
  · intro j hj
    rw [off _ _ (by omega), hs _ (by omega) (by omega) (by omega)]; exact a7 j hj
  · intro j hj hh
    rw [off _ _ (by omega)] at hh
    have := (a8 j hj hh).mono hN (Int.le_refl _)
    rw [off _ _ (by omega)]
    refine this.c (fun k i hk h1 h2 => ?_) (fun i h1 h2 => hs _ (by omega) (by omega) (by omega)) a3.2.1
    rw [lay_e hk, lay_e hk]
    exact off _ _ (by omega)
