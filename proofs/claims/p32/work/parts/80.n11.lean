/-! a pane is taken away; how many signs there are; a new group -/
theorem LR.ly9 {N : Int} {L T : Mem} {P : Int} (A : LR N L T P) (hP : 0 ≤ P ∧ P ≤ 5) : Ly L P := Ly.mk A.rl.choose_spec.wf A.fu A.cl hP
theorem take_e {mu : Mem} {w : Nat} {L : Mem} {P p : Int} (A : Lr mu w L P (-1)) (H : Ly L P) (hp : 0 ≤ p ∧ p < P) (hm : mu w 3 ≤ 16) : ∃ mu' : Mem, jK mu w p mu' ∧ Lr mu' w (tkF L p) P (-1) ∧ Fr mu mu' w := by
  have p5 := H.p5
  by_cases h : L 0 p = -1
  · have a := A.grp p hp.1 hp.2
    rw [if_pos h] at a
    have e : tkF L p = L := by
      unfold tkF
      rw [aL_0 ⟨by omega, by omega⟩, if_pos h]
    rw [e]
    exact ⟨mu, Or.inl ⟨by omega, rfl⟩, A, Fr.rf mu w⟩
  · have b := H.wf.pan p hp.1 (by omega)
    have lo := A.low p hp.1 hp.2
    by_cases z : remF L p 2 (L 0 p) = 0
    · by_cases y : L 0 (L 0 p) = 48
      · exact take_flo A H hp rfl (by omega) lo z y
      · exact take_doc A H hp hm rfl (by omega) lo z y
    · exact take_tab A H hp rfl (by omega) lo z
theorem surj_le (f pos : Int → Int) (m N : Nat) (f0 : ∀ j : Int, 0 ≤ j → j < N → 0 ≤ f j) (h : ∀ i : Int, 0 ≤ i → i < m → ∃ j : Int, 0 ≤ j ∧ j < N ∧ 1 ≤ f j ∧ pos j = i) : (m : Int) ≤ smG f N := by
  classical
  have a : (1 : Int) * m ≤ smG (fun i => smG (fun j => if j < N ∧ 1 ≤ f j ∧ pos j = i then 1 else 0) N) m := smG_ge _ 1 m (fun i i1 i2 => by
    obtain ⟨j, j1, j2, j3, j4⟩ := h i i1 i2
    have e := smG_one (fun _ => 1) j N j1 j2
    have e2 := smG_mono (f := fun o => if o = j then (1 : Int) else 0) (g := fun j => if j < N ∧ 1 ≤ f j ∧ pos j = i then 1 else 0) N (fun o o1 o2 => by
      show (if o = j then (1 : Int) else 0) ≤ (if o < N ∧ 1 ≤ f o ∧ pos o = i then 1 else 0)
      by_cases q : o = j
      · rw [if_pos q, if_pos ⟨o2, by rw [q]; exact j3, by rw [q]; exact j4⟩]; omega
      · rw [if_neg q]; split <;> omega)
    show (1 : Int) ≤ smG (fun j => if j < N ∧ 1 ≤ f j ∧ pos j = i then 1 else 0) N
    omega)
  rw [smG_swap (fun i j => if j < N ∧ 1 ≤ f j ∧ pos j = i then 1 else 0) N m] at a
  have b := smG_mono (f := fun j => smG (fun i => if j < N ∧ 1 ≤ f j ∧ pos j = i then 1 else 0) m) (g := f) N (fun j j1 j2 => by
    show smG (fun i => if j < N ∧ 1 ≤ f j ∧ pos j = i then (1 : Int) else 0) m ≤ f j
    have fj := f0 j j1 j2
    by_cases q : 1 ≤ f j
    · by_cases r : 0 ≤ pos j ∧ pos j < m
      · have e := smG_one (fun _ => 1) (pos j) m r.1 r.2
        have e2 := smG_ext (f := fun i => if j < N ∧ 1 ≤ f j ∧ pos j = i then (1 : Int) else 0) (g := fun i => if i = pos j then (1 : Int) else 0) m (fun i i1 i2 => by
          show (if j < N ∧ 1 ≤ f j ∧ pos j = i then (1 : Int) else 0) = if i = pos j then 1 else 0
          by_cases y : i = pos j
          · rw [if_pos y, if_pos ⟨j2, q, y.symm⟩]
          · rw [if_neg y, if_neg (fun x => y x.2.2.symm)])
        omega
      · have e2 := smG_zero (f := fun i => if j < N ∧ 1 ≤ f j ∧ pos j = i then (1 : Int) else 0) m (fun i i1 i2 => by
          show (if j < N ∧ 1 ≤ f j ∧ pos j = i then (1 : Int) else 0) = 0
          rw [if_neg (fun x => r (by have := x.2.2; omega))])
        omega
    · have e2 := smG_zero (f := fun i => if j < N ∧ 1 ≤ f j ∧ pos j = i then (1 : Int) else 0) m (fun i i1 i2 => by
        show (if j < N ∧ 1 ≤ f j ∧ pos j = i then (1 : Int) else 0) = 0
        rw [if_neg (fun x => q x.2.1)])
      omega)
  omega
theorem Sg.len {L : Mem} {m : Int} {Q o c : Int → Int} (S : Sg L m Q o c) : m ≤ gpN L + 2 * spN L := by
  have n := S.nng
  have a := surj_le (fun j => if j < 31 then (if L 0 (j + 16) = -1 then 0 else 1) else (if L 0 (j + 1) = -1 then 0 else 1)) (fun j => if j < 31 then o (j + 16) else c (j + 1)) m.toNat 46 (fun j j1 j2 => by
    show 0 ≤ (if j < 31 then (if L 0 (j + 16) = -1 then (0 : Int) else 1) else (if L 0 (j + 1) = -1 then (0 : Int) else 1))
    (repeat' split) <;> omega) (fun i i1 i2 => by
    obtain ⟨x, hx, hz⟩ := S.cov i i1 (by omega)
    have hl := hx.1
    rcases hz with e | ⟨e, e32⟩
    · refine ⟨x - 16, by omega, by omega, ?_, ?_⟩
      · show 1 ≤ (if x - 16 < 31 then (if L 0 (x - 16 + 16) = -1 then (0 : Int) else 1) else (if L 0 (x - 16 + 1) = -1 then (0 : Int) else 1))
        rw [if_pos (by omega), show x - 16 + 16 = x by omega, if_neg hx.2.1]
        omega
      · show (if x - 16 < 31 then o (x - 16 + 16) else c (x - 16 + 1)) = i
        rw [if_pos (by omega), show x - 16 + 16 = x by omega]
        exact e
    · refine ⟨x - 1, by omega, by omega, ?_, ?_⟩
      · show 1 ≤ (if x - 1 < 31 then (if L 0 (x - 1 + 16) = -1 then (0 : Int) else 1) else (if L 0 (x - 1 + 1) = -1 then (0 : Int) else 1))
        rw [if_neg (by omega), show x - 1 + 1 = x by omega, if_neg hx.2.1]
        omega
      · show (if x - 1 < 31 then o (x - 1 + 16) else c (x - 1 + 1)) = i
        rw [if_neg (by omega), show x - 1 + 1 = x by omega]
        exact e)
  have b := smG_app (fun j => if j < 31 then (if L 0 (j + 16) = -1 then (0 : Int) else 1) else (if L 0 (j + 1) = -1 then 0 else 1)) 31 15
  have c1 := smG_ext (f := fun j => if j < 31 then (if L 0 (j + 16) = -1 then (0 : Int) else 1) else (if L 0 (j + 1) = -1 then 0 else 1)) (g := fun i => if L 0 (i + 16) = -1 then 0 else 1) 31 (fun j j1 j2 => by
    show (if j < 31 then (if L 0 (j + 16) = -1 then (0 : Int) else 1) else (if L 0 (j + 1) = -1 then 0 else 1)) = if L 0 (j + 16) = -1 then 0 else 1
    rw [if_pos (by omega)])
  have c2 := smG_ext (f := fun i => (fun j => if j < 31 then (if L 0 (j + 16) = -1 then (0 : Int) else 1) else (if L 0 (j + 1) = -1 then 0 else 1)) (i + (31 : Nat))) (g := fun i => if L 0 (i + 32) = -1 then 0 else 1) 15 (fun j j1 j2 => by
    show (if j + ((31 : Nat) : Int) < 31 then (if L 0 (j + ((31 : Nat) : Int) + 16) = -1 then (0 : Int) else 1) else (if L 0 (j + ((31 : Nat) : Int) + 1) = -1 then 0 else 1)) = if L 0 (j + 32) = -1 then 0 else 1
    rw [if_neg (by omega), show j + ((31 : Nat) : Int) + 1 = j + 32 by omega])
  have d := nodN L
  have e : smG (fun i => if L 0 (i + 32) = -1 then (0 : Int) else 1) 15 = spN L := rfl
  rw [c1, c2, d, e] at b
  have f : smG (fun j => if j < 31 then (if L 0 (j + 16) = -1 then (0 : Int) else 1) else (if L 0 (j + 1) = -1 then 0 else 1)) 46 = smG (fun j => if j < 31 then (if L 0 (j + 16) = -1 then (0 : Int) else 1) else (if L 0 (j + 1) = -1 then 0 else 1)) (31 + 15) := rfl
  omega
/-- never more than thirteen signs -/
theorem Lr.m13 {mu : Mem} {w : Nat} {L : Mem} {P q : Int} (A : Lr mu w L P q) (H : Ly L P) : 0 ≤ mu w 3 ∧ mu w 3 ≤ 13 ∧ (∀ p : Int, 0 ≤ p → p < P → L 0 p = -1 → mu w 3 ≤ 10) := by
  obtain ⟨o, c, S⟩ := A.sg
  have l := S.len
  have n := S.nng
  have cn := H.cnt
  have p5 := H.p5
  have w0 := H.wf.mb.nng 47 (by omega) (by omega)
  have w8 := H.wf.mb.nng 48 (by omega) (by omega)
  have e := S.emp
  have op : ∀ p : Int, 0 ≤ p → p < P → L 0 p = -1 → opN L ≤ 4 := fun p h1 h2 h => by
    have key : ∀ k : Nat, smG (fun t => if L 0 t = -1 then (0 : Int) else 1) (5 + k) ≤ 4 ∨ 16 < 5 + k := by
      intro k
      induction k with
      | zero =>
        have := smG_lt (fun t => if L 0 t = -1 then (0 : Int) else 1) p 5 (fun o _ _ => by show (if L 0 o = -1 then (0 : Int) else 1) ≤ 1; split <;> omega) ⟨h1, by omega⟩ (by show (if L 0 p = -1 then (0 : Int) else 1) ≤ 0; rw [if_pos h]; omega)
        left
        rw [Nat.add_zero]
        omega
      | succ k ih =>
        rcases ih with ih | ih
        · by_cases q : 5 + (k + 1) ≤ 16
          · left
            rw [show 5 + (k + 1) = (5 + k) + 1 by omega, smG]
            have c := H.cl ((5 + k : Nat) : Int) (by omega) (by omega)
            rw [if_pos c]
            omega
          · right; omega
        · right; omega
    have := key 11
    rw [show (5 + 11 : Nat) = 16 from rfl] at this
    unfold opN
    omega
  refine ⟨n, ?_, fun p h1 h2 h => ?_⟩
  · by_cases r : L 2 47 = 0
    · have := e r; omega
    · omega
  · have := op p h1 h2 h
    by_cases r : L 2 47 = 0
    · have := e r; omega
    · omega
theorem unuG_fst {L : Mem} {e : Int} : ∀ m : Nat, unuG L e m ≠ -1 → ∀ x : Int, e - m ≤ x → x < unuG L e m → L 2 x ≠ 0
  | 0, h, x, _, _ => absurd rfl h
  | m + 1, h, x, h1, h2 => by
    unfold unuG at h h2
    split at h2
    · omega
    · rename_i z
      rw [if_neg z] at h
      by_cases q : x = e - ((m : Int) + 1)
      · rw [q]; exact z
      · exact unuG_fst m h x (by omega) h2
/-- a group of its own for a pane that is closed -/
theorem found_e {mu : Mem} {w : Nat} {L : Mem} {P p g : Int} (A : Lr mu w L P (-1)) (H : Ly L P) (hp : 0 ≤ p ∧ p < P) (h : L 0 p = -1) (hg : unuF L 16 32 = g) :
    (16 ≤ g ∧ g < 21) ∧ L 2 g = 0 ∧ L 0 g = -1 ∧ jFg mu w (g - 16) ∧ Lr (jF mu w p (g - 16)) w (grpF L p) P g ∧ Fr mu (jF mu w p (g - 16)) w := by
  have p5 := H.p5
  obtain ⟨g1, g2, g3⟩ := H.wf.freeG H.fu ⟨hp.1, by omega⟩ h
  obtain ⟨r0, r1, r2, r4, rk⟩ := grpF_rows H.wf ⟨hp.1, by omega⟩ g1 g2
  have fst := unuG_fst (L := L) (e := 32) (32 - 16 : Int).toNat
  have eu : unuG L 32 (32 - 16 : Int).toNat = unuF L 16 32 := rfl
  rw [eu] at fst
  rw [hg] at g1 g2 r0 r2 r4 fst
  have fst := fst (by omega)
  have tab : ∀ x : Int, 16 ≤ x → x < 32 → jT mu w (x - 16) = L 2 x := fun x x1 x2 => A.tabs H.wf.mb ⟨x1, x2⟩ ⟨by omega, by omega⟩ (fun t t1 t2 e => H.pan9 ⟨x1, x2⟩ ⟨t1, t2⟩ e)
  have f := H.fu g (by omega) (by omega)
  have g0 : L 0 g = -1 := by
    by_cases y : L 0 g = -1
    · exact y
    · have := f.2 y; omega
  have cg := H.wf.cntG
  -- not all of the first five are in use
  have g21 : g < 21 := by
    by_cases y : g < 21
    · exact y
    · have a := smG_app (fun i => L 2 (i + 16)) 5 11
      have b := smG_ge (fun i => L 2 (i + 16)) 1 5 (fun i i1 i2 => by
        show 1 ≤ L 2 (i + 16)
        have z := fst (i + 16) (by omega) (by omega)
        have := H.wf.mb.nng (i + 16) (by omega) (by omega)
        omega)
      have d := smG_ge (fun i => L 2 (i + ((5 : Nat) : Int) + 16)) 0 11 (fun i i1 i2 => by
        show 0 ≤ L 2 (i + ((5 : Nat) : Int) + 16)
        exact H.wf.mb.nng _ (by omega) (by omega))
      have e : smG (fun i => L 2 (i + 16)) 16 = smG (fun i => L 2 (i + 16)) (5 + 11) := rfl
      have op : opN L ≤ 4 := by
        have key : ∀ k : Nat, smG (fun t => if L 0 t = -1 then (0 : Int) else 1) (5 + k) ≤ 4 ∨ 16 < 5 + k := by
          intro k
          induction k with
          | zero =>
            have := smG_lt (fun t => if L 0 t = -1 then (0 : Int) else 1) p 5 (fun o _ _ => by show (if L 0 o = -1 then (0 : Int) else 1) ≤ 1; split <;> omega) ⟨hp.1, by omega⟩ (by show (if L 0 p = -1 then (0 : Int) else 1) ≤ 0; rw [if_pos h]; omega)
            left
            rw [Nat.add_zero]
            omega
          | succ k ih =>
            rcases ih with ih | ih
            · by_cases q : 5 + (k + 1) ≤ 16
              · left
                rw [show 5 + (k + 1) = (5 + k) + 1 by omega, smG]
                have c := H.cl ((5 + k : Nat) : Int) (by omega) (by omega)
                rw [if_pos c]
                omega
              · right; omega
            · right; omega
        have := key 11
        rw [show (5 + 11 : Nat) = 16 from rfl] at this
        unfold opN
        omega
      omega
  have T := H.wf.tw9
  have jr : ∀ (a : Nat) (i : Int), (a ≠ w + 2 ∨ (i ≠ 4 * p + 2 ∧ i ≠ 4 * p + 3 ∧ i ≠ 20 + (g - 16))) → jF mu w p (g - 16) a i = mu a i := fun a i q => by
    unfold jF
    rw [up_e, if_neg (by omega), up_e, if_neg (by omega), up_e, if_neg (by omega)]
  have j2 : jF mu w p (g - 16) (w + 2) (4 * p + 2) = g - 16 := by
    unfold jF
    rw [up_e, if_neg (by omega), up_e, if_neg (by omega), up_s]
  have j3 : jF mu w p (g - 16) (w + 2) (4 * p + 3) = 0 := by
    unfold jF
    rw [up_e, if_neg (by omega), up_s]
  have j20 : jF mu w p (g - 16) (w + 2) (20 + (g - 16)) = p := by
    unfold jF
    exact up_s _ _ _ _
  refine ⟨⟨g1.1, g21⟩, g2, g0, ⟨⟨by omega, by omega⟩, by rw [tab g g1.1 g1.2]; omega, fun x x1 x2 => ?_⟩, ?_, ?_⟩
  · have z := fst (x + 16) (by omega) (by omega)
    have y := tab (x + 16) (by omega) (by omega)
    rw [show x + 16 - 16 = x by omega] at y
    have := H.wf.mb.nng (x + 16) (by omega) (by omega)
    omega
  · refine Lr.mk ?_ ?_ (fun k h1 h2 => ?_) (fun k h1 h2 h3 => ?_) (fun x h1 h2 h3 => ?_) ?_ (fun t h1 h2 h3 => ?_) (fun k h1 h2 => ?_)
    · obtain ⟨o, c, S⟩ := A.sg
      rw [jr w 3 (by omega), show jF mu w p (g - 16) (w + 1) = mu (w + 1) from funext fun i => jr _ i (by omega)]
      have n : ∀ x : Int, 16 ≤ x → grpF L p 0 x = L 0 x := fun x hx => by rw [r0, if_neg (by omega)]
      refine ⟨o, c, S.cg (fun x => ?_) (fun x hx => n x hx.1.1) (fun x hx => ?_) (fun x h1 h2 => ?_) (fun x _ _ => rk 3 x (by omega)) (fun x _ _ => rk 5 x (by omega)) (fun _ _ _ => rfl) T.hol⟩
      · constructor
        · intro hx; have := n x hx.1.1; have := hx.2; exact ⟨hx.1, by omega, by omega⟩
        · intro hx; have := n x hx.1.1; have := hx.2; exact ⟨hx.1, by omega, by omega⟩
      · rw [r1, if_neg (by have := hx.1; omega)]
      · rw [r2, if_neg (by omega)]
    · rw [jr w 2 (by omega)]; exact A.np
    · rw [r0]
      by_cases z : k = p
      · rw [z, j2, if_pos rfl, if_neg (by omega)]
      · rw [jr _ _ (by omega), if_neg z]; exact A.grp k h1 h2
    · rw [r0] at h3
      rw [r1]
      by_cases z : k = p
      · rw [z, j3, if_pos rfl]
      · rw [if_neg z] at h3
        rw [jr _ _ (by omega), if_neg z]; exact A.pla k h1 h2 h3
    · rw [r4]
      by_cases z : x = g
      · rw [z, show (4 : Int) + g = 20 + (g - 16) by omega, j20, if_pos rfl]
      · rw [r0, if_neg (by omega)] at h3
        rw [jr _ _ (by omega), if_neg (by omega)]
        exact A.act x h1 h2 (Or.inl (by omega))
    · rw [jr _ _ (by omega), r2, if_neg (by omega)]; exact A.flo
    · rw [r0, if_neg (by omega)] at h3
      rw [jr _ _ (by omega), r1, if_neg (by omega)]; exact A.fli t h1 h2 h3
    · rw [r0]
      have := A.low k h1 h2
      split <;> omega
  · unfold jF
    exact (((Fr.rf mu w).up (Or.inr (Or.inr (Or.inr ⟨rfl, Or.inr (by omega)⟩)))).up (Or.inr (Or.inr (Or.inr ⟨rfl, Or.inr (by omega)⟩)))).up (Or.inr (Or.inr (Or.inr ⟨rfl, Or.inl (by omega)⟩)))
