/-! THE CHANGES, one by one: codes, answers, what stands behind -/
theorem gL_i {L : Mem} {k : Nat} {i : Int} (h : 0 ≤ i ∧ i < llen k) : gL L k i = L k i := by
  have : (llen k : Int) ≤ 49 := by unfold llen; split <;> decide
  unfold gL gK
  rw [wr_id (by omega)]
  exact if_pos h
theorem gL0 {L : Mem} {i : Int} (h : 0 ≤ i ∧ i < 49) : gL L 0 i = L 0 i := gL_i h
theorem gL1 {L : Mem} {i : Int} (h : 0 ≤ i ∧ i < 49) : gL L 1 i = L 1 i := gL_i h
theorem gL2 {L : Mem} {i : Int} (h : 0 ≤ i ∧ i < 49) : gL L 2 i = L 2 i := gL_i h
theorem gL3 {L : Mem} {i : Int} (h : 0 ≤ i ∧ i < 49) : gL L 3 i = L 3 i := gL_i h
theorem gL4 {L : Mem} {i : Int} (h : 0 ≤ i ∧ i < 16) : gL L 4 i = L 4 i := gL_i h
theorem gL5 {L : Mem} {i : Int} (h : 0 ≤ i ∧ i < 16) : gL L 5 i = L 5 i := gL_i h
theorem sL3 {L : Mem} {i v : Int} (h : 0 ≤ i ∧ i < 49) (hv : -2147483648 ≤ v ∧ v ≤ 2147483647) : sL L 3 i v = up L 3 i v := by
  unfold sL sK
  rw [wr_id (by omega), wr_id (by omega)]
  exact if_pos h
theorem sL4 {L : Mem} {i v : Int} (h : 0 ≤ i ∧ i < 16) (hv : -2147483648 ≤ v ∧ v ≤ 2147483647) : sL L 4 i v = up L 4 i v := by
  unfold sL sK
  rw [wr_id (by omega), wr_id (by omega)]
  exact if_pos h
theorem trT_off {mu mu1 : Mem} {r : Nat} (e : ∀ (x : Nat) (i : Int), r ≤ x → mu1 x i = mu x i) : trT mu1 r = trT mu r := by
  rw [trS_T, trS_T, show mu1 (r + 1) = mu (r + 1) from funext fun i => e _ _ (by omega)]
theorem lay_mut {m L' : Mem} {p c : Nat} (h : c + 11 ≤ p) {k : Nat} (hk : k < 8) (i : Int) : lay (stlM (putL m (c + 2) L') p c) (c + 2) k i = L' k i := by
  rw [lay_e hk, stlM_x _ _ (by omega)]
  show (if _ then _ else _) = _
  rw [if_pos (by omega)]
  congr 1
  omega
theorem lay_gL {L L' : Mem} {k : Nat} (e : ∀ i : Int, L k i = L' k i) (i : Int) : gL L k i = gL L' k i := by
  unfold gL gK atF; rw [e]
theorem dnM_0 (m : Mem) (r : Nat) : dnM m r 0 = enM m r := if_neg (by omega)
theorem dnA_0 (m : Mem) (r : Nat) : dnA m r 0 = m r 19 := if_neg (by omega)
theorem Inv.no {N : Int} {mu : Mem} {c h t p b q r : Nat} (O : Od c h t p b q r) (A : Inv N mu c h t p b r) {k : Int} (hk : 0 < k ∧ k ≤ 3) : Inv N (dnM (ptT (hdM mu r) r (trT mu r)) r k) c h t p b r ∧ dnM (ptT (hdM mu r) r (trT mu r)) r k r 7 = k := by
  rw [← hdM_pt]
  unfold dnM
  rw [if_pos hk.1]
  refine ⟨A.bad O (fun x i h1 h2 => ?_) (R32_up (hdM_R A.2 r) _ _ (by omega)), by rw [up_e, if_pos ⟨rfl, rfl⟩]⟩
  rw [up_e, if_neg (by omega), hdM_x _ _ h1]
theorem Inv.no7 {N : Int} {mu : Mem} {c h t p b q r : Nat} (O : Od c h t p b q r) (A : Inv N mu c h t p b r) {k : Int} (hk : 0 < k ∧ k ≤ 3) : Inv N (up mu r 7 k) c h t p b r ∧ up mu r 7 k r 7 = k := by
  refine ⟨A.bad O (fun x i h1 h2 => ?_) (R32_up A.2 _ _ (by omega)), by rw [up_e, if_pos ⟨rfl, rfl⟩]⟩
  rw [up_e, if_neg (by omega)]
/-- what is open where -/
theorem Inv.base {N : Int} {mu : Mem} {c h t p b r : Nat} (A : Inv N mu c h t p b r) : mu (r + 1) 2 = mu c 2 ∧ (0 ≤ mu c 2 ∧ mu c 2 ≤ 16) ∧ LR N (lay mu (c + 2)) (trT mu r) (mu c 2) := by
  rw [trS_T]
  exact ⟨A.1.st.pan.1.symm, A.1.st.pan.2, A.1.st.lyt⟩
theorem Inv.sx {N : Int} {mu : Mem} {c h t p b r : Nat} (A : Inv N mu c h t p b r) {x : Int} (hx : 0 ≤ x ∧ x < 16) : sxT (trT mu r) x = sttF (lay mu (c + 2)) x := by
  obtain ⟨⟨u, R⟩, -⟩ := A.base.2.2
  exact R.stt hx
theorem pn1 {mu : Mem} {c : Nat} {x : Int} : pnF mu c x = 1 ↔ (0 ≤ x ∧ x < mu c 2) := by unfold pnF; split <;> simp [*]
theorem sttF_b (L : Mem) (x : Int) : 0 ≤ sttF L x ∧ sttF L x ≤ 2 := by unfold sttF; (repeat' split) <;> omega
theorem pbF_x {M : Mem} {g nb d x : Int} (hx : x < 16) (hg : 16 ≤ g) (hn : 16 ≤ nb) : pbF M g nb d 0 x = M 0 x := by
  unfold pbF
  split
  · rw [pL_row (by omega), insF_r0, if_neg (by omega)]
  · have := unuF_rng M (a := 32) (e := 47) (by omega)
    unfold wrapF wrapA
    rw [pL_row (by omega), pL_row (by omega), insF_r0, if_neg (by omega), insF_r0, if_neg (by omega), replF_r0, if_neg (by omega), if_neg (by omega), pL_row (by omega)]
theorem dkF_open {N : Int} {L T : Mem} {P p t s : Int} (A : LR N L T P) (hp : 0 ≤ p ∧ p < P) (ht : 0 ≤ t ∧ t < P) (hpt : p ≠ t) (hP : P ≤ 16) (hst : sttF L t = 1 ∨ (sttF L t = 2 ∧ s = 4)) : dkF L p t s 0 p ≠ -1 := by
  obtain ⟨⟨u, R⟩, F, C, V, B⟩ := A
  obtain ⟨R2, F2, k2, ok2, h48⟩ := R.take F hp hP C
  have gr := (R2.wf.freeG F2 (p := p) ⟨hp.1, by omega⟩ (by rw [k2 p hp.1 (by omega), if_pos rfl])).1
  have t0 : L 0 t ≠ -1 := by
    intro e
    unfold sttF at hst
    rw [aL_0 ⟨ht.1, by omega⟩, if_pos e] at hst
    omega
  have kt := k2 t ht.1 (by omega)
  rw [if_neg (Ne.symm hpt)] at kt
  have pt := R.wf.pan t ht.1 (by omega)
  have at' : aL (tkF L p) 0 t = L 0 t := by rw [aL_0 ⟨ht.1, by omega⟩, kt]
  unfold dkF
  rw [at']
  split
  · rw [pL_row (by omega), insF_r0, if_pos ⟨by omega, rfl⟩]; exact t0
  · rw [pbF_x (by omega) gr.1 (by omega), grpF_r0, if_pos ⟨by omega, rfl⟩]; omega
section OPS
variable {N : Int} {mu : Mem} {c h t p b q r : Nat}
/-- dock -/
theorem O_dock_f (A : Inv N mu c h t p b r) (x y z : Int) : mcF (trT mu r) (mu (r + 1) 2) x y z = fdF mu c x y z := by
  obtain ⟨e, P, -⟩ := A.base
  unfold mcF fdF
  rw [e]
  by_cases h1 : 0 ≤ x ∧ x < mu c 2
  · by_cases h2 : 0 ≤ y ∧ y < mu c 2
    · have := sttF_b (lay mu (c + 2)) y
      rw [if_pos (show pnF mu c x = 1 ∧ pnF mu c y = 1 from ⟨pn1.mpr h1, pn1.mpr h2⟩), A.sx (x := y) (by omega)]
      (repeat' split) <;> omega
    · rw [if_pos (by omega), if_neg (fun w => h2 (pn1.mp w.2))]
  · rw [if_pos (by omega), if_neg (fun w => h1 (pn1.mp w.1))]
theorem fd0 {x y z : Int} (hf : fdF mu c x y z = 0) : (0 ≤ x ∧ x < mu c 2) ∧ (0 ≤ y ∧ y < mu c 2) ∧ x ≠ y ∧ (0 ≤ z ∧ z ≤ 4) ∧ (sttF (lay mu (c + 2)) y = 1 ∨ sttF (lay mu (c + 2)) y = 2 ∧ z = 4) := by
  unfold fdF at hf
  split at hf
  · rename_i w
    split at hf
    · omega
    · rename_i v
      split at hf
      · rename_i s
        exact ⟨pn1.mp w.1, pn1.mp w.2, by omega, by omega, s⟩
      · omega
  · omega
theorem O_dock (O : Od c h t p b q r) (A : Inv N mu c h t p b r) (hN : 1000000 ≤ N ∧ N ≤ 10000000) {x y z : Int} (hf : fdF mu c x y z = 0) {mu1 : Mem} (e1 : mu1 = stlM (putL (pshM mu c h) (c + 2) (dkF (lay (pshM mu c h) (c + 2)) x y z)) p c) :
    okD (trT mu1 r) (mu1 (r + 1) 2) x y z ∧ gL (lay mu1 (c + 2)) 2 (gL (lay mu1 (c + 2)) 0 x) = dkA (trT mu1 r) (mu1 (r + 1) 2) x y z ∧ trT mu1 r = trT mu r ∧ mu1 (r + 1) 2 = mu (r + 1) 2 ∧ MWo mu1 r ∧
      Inv (N + 20) (enM (ptT (up (hdM mu1 r) r 19 (dkA (trT mu1 r) (mu1 (r + 1) 2) x y z)) r (dkT (trT mu1 r) (mu1 (r + 1) 2) x y z)) r) c h t p b r ∧ enM (ptT (up (hdM mu1 r) r 19 (dkA (trT mu1 r) (mu1 (r + 1) 2) x y z)) r (dkT (trT mu1 r) (mu1 (r + 1) 2) x y z)) r r 7 = 0 := by
  obtain ⟨e, P, Lr⟩ := A.base
  obtain ⟨f1, f2, f3, f4, f5⟩ := fd0 hf
  have n := A.1.hy.nxt
  rw [lay_pshM n O.1] at e1
  obtain ⟨l1, l2, l3⟩ := Lr.dock f1 f2 f3 f4 P.2 f5 (by omega)
  have B : Bd (N + 20) (dkF (lay mu (c + 2)) x y z) := (dkF_bd (A.1.bd (by omega)).1 (by omega) (by omega) y z).mono (by omega)
  have l1' : LR (N + 20) (dkF (lay mu (c + 2)) x y z) (dkT (trT mu r) (mu c 2) x y z) (mu c 2) := l1.mono (by omega) (Int.le_refl _)
  obtain ⟨c1, c2, c3⟩ := A.cls O (by omega) l1' B
  rw [← e1] at c1 c2 c3
  have eT := trT_off c3
  have eP : mu1 (r + 1) 2 = mu (r + 1) 2 := c3 _ _ (by omega)
  have dA : 0 ≤ dkA (trT mu r) (mu c 2) x y z ∧ dkA (trT mu r) (mu c 2) x y z ≤ 17 := by
    unfold dkA
    split
    · have := tbT_b (tkT (trT mu r) (mu c 2) x) P (tkT (trT mu r) (mu c 2) x 9 y); omega
    · omega
  have I := A.mut O (M := N + 20) (v := dkA (trT mu r) (mu c 2) x y z) (by omega) l1' B (by omega)
  rw [← e1] at I
  have mw := A.mw (by omega)
  rw [eT, eP, e]
  refine ⟨l2, ?_, rfl, rfl, ⟨c2, ?_, ?_, ?_, ?_⟩, I.1, I.2⟩
  · have ro : ∀ (k : Nat) (i : Int), k < 8 → lay mu1 (c + 2) k i = dkF (lay mu (c + 2)) x y z k i := fun k i hk => by rw [e1]; exact lay_mut (by have := O; unfold Od at this; omega) hk i
    rw [lay_gL (fun i => ro 2 i (by omega)), lay_gL (fun i => ro 0 i (by omega)), gL0 ⟨by omega, by omega⟩, ← l3]
    obtain ⟨⟨u', R'⟩, F', -⟩ := l1
    have h1 := R'.wf.pan x (by omega) (by omega)
    have h2 := dkF_open Lr f1 f2 f3 P.2 f5
    exact gL2 (by omega)
  · rw [eT]; exact mw.2.1
  · rw [eP]; exact mw.2.2.1
  · rw [c3 _ _ (by omega)]; exact mw.2.2.2.1
  · rw [c3 _ _ (by omega)]; exact mw.2.2.2.2
end OPS
