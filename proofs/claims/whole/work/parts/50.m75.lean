/-! RUN COMMANDS on both sides -/
theorem rcG_hi {c t x : Nat} (h1 : c + 49 ≤ x) (h2 : x ≠ t) (h3 : x ≠ t + 2) : ∀ (d : Nat) (m : Mem) (n i : Int), (rcG c t d m n).2 x i = m x i
  | 0, m, n, i => rfl
  | d + 1, m, n, i => by
    rw [rcG]
    split
    · split
      · rename_i f
        rw [rcG_hi h1 h2 h3 d, coM_off (Or.inr h1) i (fun z => by have := fc_78 f z; omega)]; exact tx_x h2 h3 i
      · exact tx_x h2 h3 i
    · exact tx_x h2 h3 i
theorem rrG_lo {r x : Nat} (h : x < r) : ∀ (e : Nat) (w : Mem) (W : Int64) (n i : Int), (rrG r e w W n).2.1 x i = w x i
  | 0, w, W, n, i => rfl
  | e + 1, w, W, n, i => by
    have mx : rm1 w r x i = w x i := mx_a (by omega) (by omega) i
    rw [rrG]
    split
    · split
      · split
        · rw [rrG_lo h e, dsM_off (by omega) _ (by omega)]; exact mx
        · exact mx
      · exact mx
    · rfl
section RR
variable {N : Int} {mu : Mem} {c h t p b q r : Nat}
/-- rows of the text's reader do not count -/
theorem Inv.offt (O : Od c h t p b q r) (A : Inv N mu c h t p b r) {m : Mem} (R : R32 m) (k5 : 0 ≤ m t 5 ∧ m t 5 ≤ 8) (e : ∀ (x : Nat) (i : Int), (x = t → i = 2) → x ≠ t + 2 → m x i = mu x i) : Inv N m c h t p b r := by
  obtain ⟨A, -⟩ := A
  obtain ⟨o1, o2, o3, o4, o5, o6⟩ := O
  obtain ⟨a1, a2, a3, a4, ⟨rk, a5, a6⟩, a7⟩ := A
  have eL : Jvm.Pilot.CDockTreeLaw_law_r8737_963889.lay m (c + 2) = Jvm.Pilot.CDockTreeLaw_law_r8737_963889.lay mu (c + 2) := by
    funext k i
    show (if _ then _ else _) = (if _ then _ else _)
    by_cases z : k ≤ 7
    · rw [if_pos z, if_pos z]; exact e _ _ (by omega) (by omega)
    · rw [if_neg z, if_neg z]
  have ep : Jvm.Pilot.CDockTreeLaw_law_r8737_963889.pl m p = Jvm.Pilot.CDockTreeLaw_law_r8737_963889.pl mu p := by
    funext k i
    show (if _ then _ else _) = (if _ then _ else _)
    by_cases z : k < 14
    · rw [if_pos z, if_pos z]; exact e _ _ (by omega) (by omega)
    · rw [if_neg z, if_neg z]
  have ef : m (c + 1) = mu (c + 1) := funext fun i => e _ _ (by omega) (by omega)
  refine ⟨?_, R⟩
  rw [e r 4 (by omega) (by omega), e r 6 (by omega) (by omega)]
  refine CR.mk ?_ ?_ ?_ k5 ⟨rk, ?_, ?_⟩ ?_
  · exact a1.off (fun x i h1 h2 => e x i (by omega) (by omega)) (fun i _ _ => e _ i (by omega) (by omega))
  · exact a2.off (fun x i h1 h2 => e x i (by omega) (by omega)) (fun i _ _ => e _ i (by omega) (by omega))
  · unfold TxR
    rw [e t 2 (fun _ => rfl) (by omega)]
    exact ⟨a3.1, a3.2.1, fun i h1 h2 => by rw [e (t + 1) i (by omega) (by omega), e (r + 5) i (by omega) (by omega)]; exact a3.2.2 i h1 h2⟩
  · rw [eL]; exact a5
  · rw [eL, ef, ep, e c 0 (by omega) (by omega), e c 1 (by omega) (by omega)]; exact a6
  · exact a7.off fun x i hx => e x i (by unfold rowsC at hx; omega) (by unfold rowsC at hx; omega)
theorem R32_tx9 {m : Mem} (R : R32 m) {u f k : Int} {X : Int → Int} (hu : -2147483648 ≤ u ∧ u ≤ 2147483647) (hf : -2147483648 ≤ f ∧ f ≤ 2147483647) (hk : -2147483648 ≤ k ∧ k ≤ 2147483647) (hX : NB X) : R32 (txM m t u f k X) := fun x i => by
  have := R x i
  have := hX i
  unfold txM
  (repeat' split) <;> omega
theorem R32_mx {m : Mem} (R : R32 m) {u : Int} {X : Int → Int} (hu : -2147483648 ≤ u ∧ u ≤ 2147483647) (hX : NB X) : R32 (mxM m r u X) := fun x i => by
  have := R x i
  have := hX i
  unfold mxM
  (repeat' split) <;> omega
theorem Inv.rc1 (O : Od c h t p b q r) (A : Inv N mu c h t p b r) : Inv N (rc1 mu t) c h t p b r ∧ ∀ (x : Nat) (i : Int), (x = t → i = 2) → x ≠ t + 2 → Jvm.Pilot.CDockTreeLaw_law_r8737_963889.rc1 mu t x i = mu x i := by
  have tt := A.1.tt
  unfold TxR at tt
  have bf := ftaF_b mu t (k := mu t 5) (N := mu (t + 2)) (by omega) A.1.kd (fun j => A.2 _ j)
  have e : ∀ (x : Nat) (i : Int), (x = t → i = 2) → x ≠ t + 2 → Jvm.Pilot.CDockTreeLaw_law_r8737_963889.rc1 mu t x i = mu x i := fun x i h1 h2 => by
    unfold Jvm.Pilot.CDockTreeLaw_law_r8737_963889.rc1
    show txM mu t _ _ _ _ x i = _
    unfold txM
    by_cases z : x = t
    · have := h1 z
      rw [if_pos z, if_neg (by omega), if_neg (by omega), if_neg (by omega)]
    · rw [if_neg z, if_neg h2]
  refine ⟨A.offt O (R32_tx9 A.2 (by omega) (by omega) (by omega) bf.2.2.2) ?_ e, e⟩
  rw [show Jvm.Pilot.CDockTreeLaw_law_r8737_963889.rc1 mu t t 5 = (ftaF mu t (mu t 5) (mu (t + 2))).2.2.1 from tx_5]
  exact bf.2.2.1
theorem TQ.at (A : Inv N mu c h t p b r) {nu : Mem} (e : ∀ (x : Nat) (i : Int), r ≤ x → nu x i = mu x i) : TQ mu t nu r := by
  have tt := A.1.tt
  refine TQ.of ?_
  rw [show nu (r + 5) = mu (r + 5) from funext fun i => e _ i (by omega), e r 6 (by omega)]
  exact tt
theorem O_run_f (A : Inv N mu c h t p b r) {nu : Mem} (e : ∀ (x : Nat) (i : Int), r ≤ x → nu x i = mu x i) (W : Int64) : (ftaF mu t (mu t 5) (mu (t + 2))).2.1 = (fqF nu r W).1 := by
  have T := TQ.at A e
  have t2 := T.2.1
  have kb := kF_b nu r (c := 0) (by omega)
  exact fta_e T 150 151 0 (mu t 5) (mu (t + 2)) (nu (r + 16)) W (by omega) A.1.kd (by omega) (by omega)
/-- a text with a fault: nothing is done -/
theorem O_run_b (O : Od c h t p b q r) (A : Inv N mu c h t p b r) (hN : 0 ≤ N ∧ N ≤ 10000000) {mu1 : Mem} (e1 : mu1 = rc1 mu t) (W : Int64) : MWo mu1 r ∧ Inv N (up (rf1 mu1 r W) r 7 0) c h t p b r ∧ (∀ (x : Nat) (i : Int), r ≤ x → mu1 x i = mu x i) := by
  obtain ⟨A1, e⟩ := A.rc1 O
  have O' := O
  obtain ⟨o1, o2, o3, o4, o5, o6⟩ := O'
  rw [← e1] at A1 e
  have mw := A1.mw hN
  have n6 := mw.2.2.2.2
  have kb := kF_b mu1 r (c := 0) (by omega)
  have bf := fqG_b mu1 r 151 (kF mu1 r 0) (W, mu1 (r + 16)) (by omega) (fun j => A1.2 _ j)
  refine ⟨mw, ⟨?_, ?_⟩, fun x i hx => e x i (by omega) (by omega)⟩
  · have em : ∀ (x : Nat) (i : Int), x ≠ r + 16 → ¬ (x = r ∧ (i = 7 ∨ i = 20)) → up (rf1 mu1 r W) r 7 0 x i = mu1 x i := fun x i h1 h2 => by
      rw [up_e, if_neg (by omega)]
      unfold rf1 mxM
      rw [if_neg (by omega), if_neg h1]
    rw [em r 4 (by omega) (by omega), em r 6 (by omega) (by omega)]
    exact A1.1.off O (fun x i hx => em x i (by omega) (by omega)) (fun i _ _ => em _ i (by omega) (by omega)) (fun i _ _ => em _ i (by omega) (by omega)) (fun i _ _ => em _ i (by omega) (by omega))
  · exact R32_up (R32_mx A1.2 (by have := bf.2.1; unfold fqF; omega) bf.2.2) _ _ (by omega)
/-- the memories at the beginning -/
theorem J_start (O : Od c h t p b q r) (A : Inv N mu c h t p b r) {nu : Mem} (R : R32 nu) (e : ∀ (x : Nat) (i : Int), r ≤ x → nu x i = mu x i) (W : Int64) : JR N (rc0 mu c h t) (rr0 nu r W) c h t b r (mu (r + 1)) (mu (r + 2)) (mu r 4) ∧ JC (rc0 mu c h t) (rr0 nu r W) t r ∧
    (∀ (x : Nat) (i : Int), (x < h ∨ h + 198 ≤ x) → x ≠ t → x ≠ t + 2 → rc0 mu c h t x i = mu x i) ∧ (∀ (x : Nat) (i : Int), x < r → rr0 nu r W x i = nu x i) ∧ rc0 mu c h t t 3 = 0 := by
  obtain ⟨A1, e1⟩ := A.rc1 O
  obtain ⟨p1, p2, p3, p4, p5, p6, p7⟩ := A1.psh O
  have O' := O
  obtain ⟨o1, o2, o3, o4, o5, o6⟩ := O'
  have T := TQ.at A e
  have t2 := T.2.1
  have tt := A.1.tt
  unfold TxR at tt
  have kb := kF_b nu r (c := 0) (by omega)
  have bf := fqG_b nu r 151 (kF nu r 0) (W, nu (r + 16)) (by omega) (fun j => R _ j)
  have Rf : R32 (rf1 nu r W) := R32_mx R (by have := bf.2.1; unfold fqF; omega) bf.2.2
  have rf : ∀ (x : Nat) (i : Int), x ≠ r + 16 → ¬ (x = r ∧ i = 20) → rf1 nu r W x i = nu x i := fun x i h1 h2 => by
    unfold rf1 mxM
    rw [if_neg h2, if_neg h1]
  generalize hw : hdM (rf1 nu r W) r = w
  have we : ∀ (x : Nat) (i : Int), x ≠ r + 3 → x ≠ r + 16 → ¬ (x = r ∧ i = 20) → w x i = nu x i := fun x i h1 h2 h3 => by
    rw [← hw, hdM_x _ _ h1, rf x i h2 h3]
  have we1 : w (r + 1) = Jvm.Pilot.CDockTreeLaw_law_r8737_963889.rc1 mu t (r + 1) := funext fun i => by rw [we _ _ (by omega) (by omega) (by omega), e _ _ (by omega), e1 _ _ (by omega) (by omega)]
  have we5 : w (r + 5) = Jvm.Pilot.CDockTreeLaw_law_r8737_963889.rc1 mu t (r + 5) := funext fun i => by rw [we _ _ (by omega) (by omega) (by omega), e _ _ (by omega), e1 _ _ (by omega) (by omega)]
  have we6 : w r 6 = Jvm.Pilot.CDockTreeLaw_law_r8737_963889.rc1 mu t r 6 := by rw [we _ _ (by omega) (by omega) (by omega), e _ _ (by omega), e1 _ _ (by omega) (by omega)]
  have J0 : JR N (pshM (Jvm.Pilot.CDockTreeLaw_law_r8737_963889.rc1 mu t) c h) w c h t b r (mu (r + 1)) (mu (r + 2)) (mu r 4) := by
    have x1 : Jvm.Pilot.CDockTreeLaw_law_r8737_963889.rc1 mu t (r + 1) = mu (r + 1) := funext fun i => e1 _ _ (by omega) (by omega)
    have x2 : Jvm.Pilot.CDockTreeLaw_law_r8737_963889.rc1 mu t (r + 2) = mu (r + 2) := funext fun i => e1 _ _ (by omega) (by omega)
    have x4 : Jvm.Pilot.CDockTreeLaw_law_r8737_963889.rc1 mu t r 4 = mu r 4 := e1 _ _ (by omega) (by omega)
    rw [x1, x2, x4] at p2
    refine JR.mk (by rw [we1]; exact p1) p2 (by rw [we5, we6]; exact p3) p4 p5 p6 (by rw [← hw]; exact hdM_R Rf r) (fun i h1 => ?_) (fun i h1 h2 => ?_) ?_ A.1.hy.cnt.2
    · rw [we _ _ (by omega) (by omega) (by omega), e _ _ (by omega)]
    · rw [← hw, hdM_3 _ _ ⟨h1, h2⟩, rf _ _ (by omega) (by omega), e _ _ (by omega)]
    · rw [we _ _ (by omega) (by omega) (by omega), e _ _ (by omega)]
  have w6 : w r 6 = mu r 6 := by rw [we _ _ (by omega) (by omega) (by omega), e _ _ (by omega)]
  have kb2 := kF_b w r (c := 0) (by omega)
  have er : rr0 nu r W = mxM w r (kF w r 0) (w (r + 16)) := by
    unfold rr0
    rw [hw]
  have ec : rc0 mu c h t = txM (pshM (Jvm.Pilot.CDockTreeLaw_law_r8737_963889.rc1 mu t) c h) t 0 (-1) (pshM (Jvm.Pilot.CDockTreeLaw_law_r8737_963889.rc1 mu t) c h t 5) (pshM (Jvm.Pilot.CDockTreeLaw_law_r8737_963889.rc1 mu t) c h (t + 2)) := rfl
  rw [er, ec]
  refine ⟨J0.tx O (by omega) (by omega) p4 (fun j => p6 _ j) (by omega) (fun j => J0.rr _ j), ⟨?_, tx_4, ?_⟩, fun x i h1 h2 h3 => ?_, fun x i hx => ?_, tx_3⟩
  · rw [tx_3, tx_2, p7 _ _ (by omega), e1 _ _ (fun _ => rfl) (by omega)]
    omega
  · rw [mx_c, tx_3]
    exact (kF_off (fun i => mx_a (by omega) (by omega) i) mx_6 0).symm
  · rw [tx_x h2 h3, p7 _ _ h1, e1 _ _ (by omega) h3]
  · rw [mx_a (by omega) (by omega), we _ _ (by omega) (by omega) (by omega)]
theorem O_run (O : Od c h t p b q r) (A : Inv N mu c h t p b r) (hN : 1000000 ≤ N ∧ N ≤ 9000000) {mu1 : Mem} (e1 : mu1 = stlM (rcG c t 150 (rc0 mu c h t) 0).2 p c) (W W2 : Int64) :
    (rcG c t 150 (rc0 mu c h t) 0).1 = (rrG r 151 (rr0 mu1 r W) W2 0).1 ∧ MWo mu1 r ∧ (∀ (x : Nat) (i : Int), r ≤ x → mu1 x i = mu x i) ∧ Inv (N + 3000) (enM (rrG r 151 (rr0 mu1 r W) W2 0).2.1 r) c h t p b r := by
  have O' := O
  obtain ⟨o1, o2, o3, o4, o5, o6⟩ := O'
  have tt := A.1.tt
  unfold TxR at tt
  obtain ⟨z1, z2, z3, z4, z5⟩ := J_start O A A.2 (fun _ _ _ => rfl) W
  have T := TQ.of z1.tt
  have n2 : rc0 mu c h t t 2 = mu t 2 := by
    have := (A.rc1 O).2 t 2 (fun _ => rfl) (by omega)
    have p7 := ((A.rc1 O).1.psh O).2.2.2.2.2.2 t 2 (by omega)
    show txM _ t _ _ _ _ t 2 = _
    rw [tx_2, p7, this]
  have off : ∀ (x : Nat) (i : Int), r ≤ x → mu1 x i = mu x i := fun x i hx => by
    rw [e1, stlM_x _ _ (by omega), rcG_hi (by omega) (by omega) (by omega), z3 _ _ (by omega) (by omega) (by omega)]
  have R1 : R32 mu1 := by
    have ta := T.1
    have tb := T.2.1
    have C1 := z2.1
    have C3 := z2.2.2
    have kb := kF_b (rr0 mu r W) r (c := rc0 mu c h t t 3) (by omega)
    have g := J_run O 150 151 N _ _ 0 W2 z1 z2 hN.1 (by omega) (by omega) (by omega)
    rw [e1]
    exact (g.2.cr O).2
  obtain ⟨y1, y2, y3, y4, y5⟩ := J_start O A R1 off W
  have T' := TQ.of y1.tt
  have ta := T'.1
  have tb := T'.2.1
  have C1 := y2.1
  have C3 := y2.2.2
  have kb := kF_b (rr0 mu1 r W) r (c := rc0 mu c h t t 3) (by omega)
  have g := J_run O 150 151 N _ _ 0 W2 y1 y2 hN.1 (by omega) (by omega) (by omega)
  have mw := A.mw (by omega)
  refine ⟨g.1, mw.off R1 off, off, ?_⟩
  have G := g.2.mono (show N + 20 * (rr0 mu1 r W r 6 - rc0 mu c h t t 3) ≤ N + 3000 by omega)
  refine (G.fin O G.rr (fun x i hx => ?_) (fun _ _ _ => rfl)).1
  rw [rrG_lo hx, y4 _ _ hx, e1]
/-- what the class keeps along the run -/
def RQ (N : Int) (mu : Mem) (c h t b p r : Nat) (m : Mem) : Prop := ∃ w : Mem, JR (N + 20 * m t 3) m w c h t b r (mu (r + 1)) (mu (r + 2)) (mu r 4) ∧ JC m w t r ∧ m p 9 = mu p 9
theorem RQ_0 (O : Od c h t p b q r) (A : Inv N mu c h t p b r) : RQ N mu c h t b p r (rc0 mu c h t) := by
  obtain ⟨y1, y2, y3, y4, y5⟩ := J_start O A A.2 (fun _ _ _ => rfl) (I64 0)
  obtain ⟨o1, o2, o3, o4, o5, o6⟩ := O
  refine ⟨_, ?_, y2, y3 _ _ (by omega) (by omega) (by omega)⟩
  rw [y5]
  exact y1.mono (by omega)
theorem RQ_W (A : Inv N mu c h t p b r) (hN : 1000000 ≤ N ∧ N ≤ 9000000) {m : Mem} (Q : RQ N mu c h t b p r m) : Wo m c h t p ∧ (0 ≤ m t 3 ∧ m t 3 ≤ m t 2) ∧ m t 4 = -1 ∧ 0 ≤ m t 5 ∧ m t 5 ≤ 8 := by
  obtain ⟨w, J, C, e⟩ := Q
  have T := TQ.of J.tt
  have ta := T.1
  have tb := T.2.1
  have C1 := C.1
  have w0 := A.1.wo (by omega) A.2
  exact ⟨J.wo (by omega) (by rw [e]; exact w0.2.2.2.2.2.2), C.1, C.2.1, J.kd⟩
theorem RQ_1 (O : Od c h t p b q r) (hN : 1000000 ≤ N ∧ N ≤ 9000000) {m : Mem} (Q : RQ N mu c h t b p r m) (h1 : (rnF m t (m t 3) (m t 5) (m (t + 2))).1 = 1) (h2 : fcF (txT m t (rnF m t (m t 3) (m t 5) (m (t + 2))).2) c t = 0) : RQ N mu c h t b p r (coM (txT m t (rnF m t (m t 3) (m t 5) (m (t + 2))).2) c t) := by
  obtain ⟨w, J, C, e⟩ := Q
  have T := TQ.of J.tt
  have ta := T.1
  have tb := T.2.1
  have C1 := C.1
  by_cases hl : w r 20 < w r 6
  · have q := J_one O J C (by omega) hl
    by_cases y : (rx1 w r).1 = 1
    · obtain ⟨q1, q2, q3, q4, q5⟩ := q.1 y
      obtain ⟨g1, g2, g3, g4, g5, g6⟩ := q5 h2
      obtain ⟨o1, o2, o3, o4, o5, o6⟩ := O
      exact ⟨_, g1.mono (by omega), g2, (g6 _ _ (by omega) (by omega) (by omega)).trans e⟩
    · have := (q.2 y).1
      omega
  · have := (J_none O J C hl).1
    omega
/-- what the reference keeps along the run -/
def RP (N : Int) (mu : Mem) (c h t b r : Nat) (w : Mem) : Prop := ∃ m : Mem, JR (N + 20 * m t 3) m w c h t b r (mu (r + 1)) (mu (r + 2)) (mu r 4) ∧ JC m w t r
theorem RP_0 (O : Od c h t p b q r) (A : Inv N mu c h t p b r) {nu : Mem} (R : R32 nu) (e : ∀ (x : Nat) (i : Int), r ≤ x → nu x i = mu x i) (W : Int64) : RP N mu c h t b r (rr0 nu r W) := by
  obtain ⟨y1, y2, y3, y4, y5⟩ := J_start O A R e W
  refine ⟨_, ?_, y2⟩
  rw [y5]
  exact y1.mono (by omega)
theorem RP_W (hN : 1000000 ≤ N ∧ N ≤ 9000000) {w : Mem} (Q : RP N mu c h t b r w) : MWo w r ∧ (0 ≤ w r 20 ∧ w r 20 ≤ w r 6) := by
  obtain ⟨m, J, C⟩ := Q
  have T := TQ.of J.tt
  have ta := T.1
  have tb := T.2.1
  have C1 := C.1
  have C3 := C.2.2
  have kb := kF_b w r (c := m t 3) (by omega)
  exact ⟨J.mw (by omega), by omega, by omega⟩
theorem RP_1 (O : Od c h t p b q r) (hN : 1000000 ≤ N ∧ N ≤ 9000000) {w : Mem} (Q : RP N mu c h t b r w) (hl : w r 20 < w r 6) (y : (rx1 w r).1 = 1) : dsO (rm1 w r) r (rx1 w r).2.2.1 ∧ (dsF (rm1 w r) r (rx1 w r).2.2.1 = 0 → RP N mu c h t b r (dsM (rm1 w r) r (rx1 w r).2.2.1)) := by
  obtain ⟨m, J, C⟩ := Q
  have T := TQ.of J.tt
  have ta := T.1
  have tb := T.2.1
  have C1 := C.1
  have q := J_one O J C (by omega) hl
  obtain ⟨q1, q2, q3, q4, q5⟩ := q.1 y
  refine ⟨q3, fun f => ?_⟩
  obtain ⟨g1, g2, g3, g4, g5, g6⟩ := q5 (q4.mp f)
  exact ⟨_, g1.mono (by omega), g2⟩
end RR
