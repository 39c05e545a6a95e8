/-! DOCKTREE, on the memory itself: a its object, c the present state, h the history, t the text, p the plan, b the trial layout, q its plan -/
def lay (mu : Mem) (b : Nat) : Mem := fun k i => if k ≤ 7 then mu (b + 1 + k) i else 0
def pl (mu : Mem) (p : Nat) : Mem := fun k i => if k < 14 then mu (p + k) i else 0
theorem putL_lay (mu : Mem) (b : Nat) : putL mu b (lay mu b) = mu := by
  funext a i
  unfold putL lay
  split
  · rw [if_pos (by omega), show b + 1 + (a - (b + 1)) = a by omega]
  · rfl
theorem putK_pl (mu : Mem) (p : Nat) : putK mu p 14 (pl mu p) = mu := by
  funext a i
  unfold putK pl
  split
  · rw [if_pos (by omega), show p + (a - p) = a by omega]
  · rfl
theorem LayAt_lay (mu : Mem) (b : Nat) : LayAt mu b (lay mu b) := fun k hk i => by unfold lay; rw [if_pos hk]
theorem lay_R {mu : Mem} (h : R32 mu) (b : Nat) : R32 (lay mu b) := fun k i => by
  unfold lay; split
  · exact h _ i
  · omega
theorem pl_R {mu : Mem} (h : R32 mu) (p : Nat) : R32 (pl mu p) := fun k i => by
  unfold pl; split
  · exact h _ i
  · omega
theorem gL_bd {N : Int} {L : Mem} (h : Bd N L) (hN : 1 ≤ N) (k : Nat) (i : Int) : -N ≤ gL L k i ∧ gL L k i ≤ N := by
  unfold gL gK atF
  split
  · exact h k _
  · omega
theorem gL_aL {L : Mem} {k : Nat} {i : Int} (hi : -2147483648 ≤ i ∧ i ≤ 2147483647) : aL L k i = gL L k i := by
  unfold gL gK aL
  rw [wr_id hi]
theorem stt_b (L : Mem) (p : Int) : 0 ≤ sttF L p ∧ sttF L p ≤ 2 := by unfold sttF; (repeat' split) <;> omega
def TxS (S : Sh) (t : Nat) : Prop := hasS S t (.inr (.inr (0, [.inl (.ref (t + 1)), .inl (.ref (t + 2)), .inr 0, .inr 0, .inr 0, .inr 2]))) ∧ hasS S (t + 1) (.inl (0, 150)) ∧ hasS S (t + 2) (.inl (0, 5))
def DoS (S : Sh) (a c h t p b q : Nat) : Prop :=
  hasS S a (.inr (.inr (6, [.inl (.ref c), .inl (.ref h), .inl (.ref t), .inl (.ref p), .inl (.ref b), .inl (.ref q)]))) ∧ StS S c ∧ HiS S h ∧ TxS S t ∧ PlanS S p ∧ LayS S b ∧ PlanS S q ∧
  (a < c ∧ c + 49 ≤ h ∧ h + 198 ≤ t ∧ t + 3 ≤ p ∧ p + 14 ≤ b ∧ b + 9 ≤ q)
/-- bounds that hold of every memory that a run comes to -/
def Wo (mu : Mem) (c h t p : Nat) : Prop :=
  R32 mu ∧ Bd 16000000 (lay mu (c + 2)) ∧ (0 ≤ mu c 2 ∧ mu c 2 ≤ 16) ∧ (0 ≤ mu h 2 ∧ mu h 2 < 4) ∧ (0 ≤ mu h 1 ∧ mu h 1 ≤ 4) ∧ (0 ≤ mu t 2 ∧ mu t 2 ≤ 150) ∧ (0 ≤ mu p 9 ∧ mu p 9 ≤ 31)
theorem Dt_int {S : Sh} {n : Nat} {mu : Mem} {la : Lam} {x y : Int} (h : x = y) : Dt (some (.int (I32 y))) S n mu la (some (.int (I32 x))) S n mu la := by subst h; exact Dt_rfl
section VL
variable {X : Cx} {cc : ByteArray} {Ts : List Cond} {own : String} {ret : Option FieldType} {fr nL : Nat} {pc : Nat} {r : Rg} {st : List Value} {S : Sh} {n : Nat} {mu : Mem} {la : Lam} {k sl : Nat}
theorem V_ldcI (C : Ok X cc Ts own ret fr nL) {v : Int} {index : Nat} (hd : decode cc pc = .ok (.ldc index, 2)) (hc : Cond.constant own index (I32 v) ∈ Ts)
    (kk : V X (pc + 2) r (.int (I32 v) :: st) S n mu la k sl) : V X pc r st S n mu la k sl := fun H locs ls hH hS hl => lv_ldc C.1 C.2.1 C.own (C.ts _ hc) hd (kk H locs ls hH hS hl)
theorem V_ldcwI (C : Ok X cc Ts own ret fr nL) {v : Int} {index : Nat} (hd : decode cc pc = .ok (.ldc_w index, 3)) (hc : Cond.constant own index (I32 v) ∈ Ts)
    (kk : V X (pc + 3) r (.int (I32 v) :: st) S n mu la k sl) : V X pc r st S n mu la k sl := fun H locs ls hH hS hl => lv_ldcw C.1 C.2.1 C.own (C.ts _ hc) hd (kk H locs ls hH hS hl)
theorem V_ldc2 (C : Ok X cc Ts own ret fr nL) {v : Int64} {index : Nat} (hd : decode cc pc = .ok (.ldc2_w index, 3)) (hc : Cond.constantLong own index v ∈ Ts)
    (kk : V X (pc + 3) r (.long v :: st) S n mu la k sl) : V X pc r st S n mu la k sl := fun H locs ls hH hS hl => lv_ldc2 C.1 C.2.1 C.own (C.ts _ hc) hd (kk H locs ls hH hS hl)
end VL
section WL
variable {G : Gx} {l : Launch} {S : Sh} {n : Nat} {mu : Mem} {la : Lam} {b p : Nat}
theorem w_holderOf (hG : GP G) (hL : LayS S b) {x : Int} : Ct G l yX4_holderOf wsX4_holderOf 1 0 0 [.ref b, .int (I32 x)] S n mu la (Dt (some (.int (I32 (gL (lay mu b) 0 x)))) S n mu la) := r_holderOf hG hL (LayAt_lay mu b)
theorem w_placeOf (hG : GP G) (hL : LayS S b) {x : Int} : Ct G l yX4_placeOf wsX4_placeOf 1 0 0 [.ref b, .int (I32 x)] S n mu la (Dt (some (.int (I32 (gL (lay mu b) 1 x)))) S n mu la) := r_placeOf hG hL (LayAt_lay mu b)
theorem w_countOf (hG : GP G) (hL : LayS S b) {x : Int} : Ct G l yX4_countOf wsX4_countOf 1 0 0 [.ref b, .int (I32 x)] S n mu la (Dt (some (.int (I32 (gL (lay mu b) 2 x)))) S n mu la) := r_countOf hG hL (LayAt_lay mu b)
theorem w_weightOf (hG : GP G) (hL : LayS S b) {x : Int} : Ct G l yX4_weightOf wsX4_weightOf 1 0 0 [.ref b, .int (I32 x)] S n mu la (Dt (some (.int (I32 (gL (lay mu b) 3 x)))) S n mu la) := r_weightOf hG hL (LayAt_lay mu b)
theorem w_activeOf (hG : GP G) (hL : LayS S b) {x : Int} : Ct G l yX4_activeOf wsX4_activeOf 1 0 0 [.ref b, .int (I32 x)] S n mu la (Dt (some (.int (I32 (gL (lay mu b) 4 (x - 16))))) S n mu la) := r_activeOf hG hL (LayAt_lay mu b)
theorem w_axisOf (hG : GP G) (hL : LayS S b) {x : Int} : Ct G l yX4_axisOf wsX4_axisOf 1 0 0 [.ref b, .int (I32 x)] S n mu la (Dt (some (.int (I32 (gL (lay mu b) 5 (x - 32))))) S n mu la) := r_axisOf hG hL (LayAt_lay mu b)
theorem w_stateOf (hG : GP G) (hL : LayS S b) (hB : Bd 16000000 (lay mu b)) {x : Int} (hx : -1073741824 ≤ x ∧ x ≤ 1073741824) : Ct G l yX4_stateOf wsX4_stateOf 1 0 0 [.ref b, .int (I32 x)] S n mu la (Dt (some (.int (I32 (sttF (lay mu b) x)))) S n mu la) := by
  have h := c_stateOf (l := l) (n := n) (mu := mu) (la := la) hG hL hB (by omega) hx
  rw [putL_lay] at h; exact h
theorem w_memberAt (hG : GP G) (hL : LayS S b) (hB : Bd 16000000 (lay mu b)) {x i : Int} (hx : -1073741824 ≤ x ∧ x ≤ 1073741824) (hi : -1073741824 ≤ i ∧ i ≤ 1073741824) : Ct G l yX4_memberAt wsX4_memberAt 1 0 0 [.ref b, .int (I32 x), .int (I32 i)] S n mu la (Dt (some (.int (I32 (mbrF (lay mu b) x i)))) S n mu la) := by
  have h := c_memberAt (l := l) (n := n) (mu := mu) (la := la) hG hL hB (by omega) hx hi
  rw [putL_lay] at h; exact h
theorem w_changeWeight (hG : GP G) (hL : LayS S b) {x v : Int} (hx : -1073741824 ≤ x ∧ x ≤ 1073741824) : Ct G l yX4_changeWeight wsX4_changeWeight 1 0 0 [.ref b, .int (I32 x), .int (I32 v)] S n mu la (Dt none S n (putL mu b (pL (lay mu b) 3 x v)) la) := by
  have h := c_changeWeight (l := l) (n := n) (mu := mu) (la := la) (L := lay mu b) (v := v) hG hL hx
  rw [putL_lay] at h; exact h
theorem w_changeActive (hG : GP G) (hL : LayS S b) {x v : Int} (hx : -1073741824 ≤ x ∧ x ≤ 1073741824) : Ct G l yX4_changeActive wsX4_changeActive 1 0 0 [.ref b, .int (I32 x), .int (I32 v)] S n mu la (Dt none S n (putL mu b (pL (lay mu b) 4 (x - 16) v)) la) := by
  have h := c_changeActive (l := l) (n := n) (mu := mu) (la := la) (L := lay mu b) (v := v) hG hL hx
  rw [putL_lay] at h; exact h
theorem w_takeAway (hG : GP G) (hL : LayS S b) {N : Int} (hB : Bd N (lay mu b)) (hN : 100 ≤ N ∧ N ≤ 100000000) {x : Int} (hx : -N ≤ x ∧ x ≤ N) : Ct G l yX4_takeAway wsX4_takeAway 3 0 0 [.ref b, .int (I32 x)] S n mu la (Dt none S n (putL mu b (tkF (lay mu b) x)) la) := by
  have h := c_takeAway (l := l) (n := n) (mu := mu) (la := la) hG hL hB (by omega) hx
  rw [putL_lay] at h; exact h
theorem w_dockAt (hG : GP G) (hL : LayS S b) {N : Int} (hB : Bd N (lay mu b)) (hN : 100 ≤ N ∧ N ≤ 100000000) {x y z : Int} (hx : -N ≤ x ∧ x ≤ N) (hy : -N ≤ y ∧ y ≤ N) (hz : -N ≤ z ∧ z ≤ N) : Ct G l yX4_dockAt wsX4_dockAt 4 0 0 [.ref b, .int (I32 x), .int (I32 y), .int (I32 z)] S n mu la (Dt none S n (putL mu b (dkF (lay mu b) x y z)) la) := by
  have h := c_dockAt (l := l) (n := n) (mu := mu) (la := la) hG hL hB (by omega) hx hy hz
  rw [putL_lay] at h; exact h
theorem w_dockAtWindow (hG : GP G) (hL : LayS S b) {N : Int} (hB : Bd N (lay mu b)) (hN : 100 ≤ N ∧ N ≤ 100000000) {x z : Int} (hx : -N ≤ x ∧ x ≤ N) (hz : -N ≤ z ∧ z ≤ N) : Ct G l yX4_dockAtWindow wsX4_dockAtWindow 4 0 0 [.ref b, .int (I32 x), .int (I32 z)] S n mu la (Dt none S n (putL mu b (dwF (lay mu b) x z)) la) := by
  have h := c_dockAtWindow (l := l) (n := n) (mu := mu) (la := la) hG hL hB (by omega) hx hz
  rw [putL_lay] at h; exact h
theorem w_floatAlone (hG : GP G) (hL : LayS S b) {N : Int} (hB : Bd N (lay mu b)) (hN : 100 ≤ N ∧ N ≤ 100000000) {x y z w v : Int} (hx : -N ≤ x ∧ x ≤ N) : Ct G l yX4_floatAlone wsX4_floatAlone 4 0 0 [.ref b, .int (I32 x), .int (I32 y), .int (I32 z), .int (I32 w), .int (I32 v)] S n mu la (Dt none S n (putL mu b (flF (lay mu b) x y z w v)) la) := by
  have h := c_floatAlone (l := l) (n := n) (mu := mu) (la := la) (x := y) (y := z) (w := w) (h := v) hG hL hB (by omega) hx
  rw [putL_lay] at h; exact h
theorem w_raiseGroup (hG : GP G) (hL : LayS S b) {N : Int} (hB : Bd N (lay mu b)) (hN : 100 ≤ N ∧ N ≤ 100000000) {x : Int} (hx : -N ≤ x ∧ x ≤ N) : Ct G l yX4_raiseGroup wsX4_raiseGroup 2 0 0 [.ref b, .int (I32 x)] S n mu la (Dt (some (.int (I32 (aL (lay mu b) 1 x)))) S n (putL mu b (raF (lay mu b) x)) la) := by
  have h := c_raiseGroup (l := l) (n := n) (mu := mu) (la := la) hG hL hB (by omega) hx
  rw [putL_lay] at h; exact h
theorem w_moveWithinGroup (hG : GP G) (hL : LayS S b) {N : Int} (hB : Bd N (lay mu b)) (hN : 100 ≤ N ∧ N ≤ 100000000) {x i : Int} (hx : -N ≤ x ∧ x ≤ N) (hi : -N ≤ i ∧ i ≤ N) : Ct G l yX4_moveWithinGroup wsX4_moveWithinGroup 2 0 0 [.ref b, .int (I32 x), .int (I32 i)] S n mu la (Dt none S n (putL mu b (mvF (lay mu b) x i)) la) := by
  have h := c_moveWithinGroup (l := l) (n := n) (mu := mu) (la := la) hG hL hB (by omega) hx hi
  rw [putL_lay] at h; exact h
theorem w_memberOf (hG : GP G) (hP : PlanS S p) {x i : Int} (hi : -2147483648 ≤ i ∧ i ≤ 2147483647) : Ct G l yX5_memberOf wsX5_memberOf 1 0 0 [.ref p, .int (I32 x), .int (I32 i)] S n mu la (Dt (some (.int (I32 (mo (pl mu p) x i)))) S n mu la) := by
  have h := c_memberOf (l := l) (n := n) (mu := mu) (la := la) (P := pl mu p) (h := x) hG hP hi
  rw [putK_pl] at h; exact h
theorem w_leastOf (hG : GP G) (hP : PlanS S p) {x i : Int} : Ct G l yX5_leastOf wsX5_leastOf 1 0 0 [.ref p, .int (I32 x), .int (I32 i)] S n mu la (Dt (some (.int (I32 (gK (pl mu p) 4 98 (2 * x + i))))) S n mu la) := by
  have h := c_leastOf (l := l) (n := n) (mu := mu) (la := la) (P := pl mu p) (t := x) (x := i) hG hP
  rw [putK_pl] at h; exact h
theorem w_startOf (hG : GP G) (hP : PlanS S p) {x i : Int} : Ct G l yX5_startOf wsX5_startOf 1 0 0 [.ref p, .int (I32 x), .int (I32 i)] S n mu la (Dt (some (.int (I32 (gK (pl mu p) 5 98 (2 * x + i))))) S n mu la) := by
  have h := c_startOf (l := l) (n := n) (mu := mu) (la := la) (P := pl mu p) (t := x) (x := i) hG hP
  rw [putK_pl] at h; exact h
theorem w_sizeOf (hG : GP G) (hP : PlanS S p) {x i : Int} : Ct G l yX5_sizeOf wsX5_sizeOf 1 0 0 [.ref p, .int (I32 x), .int (I32 i)] S n mu la (Dt (some (.int (I32 (gK (pl mu p) 6 98 (2 * x + i))))) S n mu la) := by
  have h := c_sizeOf (l := l) (n := n) (mu := mu) (la := la) (P := pl mu p) (t := x) (x := i) hG hP
  rw [putK_pl] at h; exact h
theorem w_depthOf (hG : GP G) (hP : PlanS S p) {x : Int} : Ct G l yX5_depthOf wsX5_depthOf 1 0 0 [.ref p, .int (I32 x)] S n mu la (Dt (some (.int (I32 (gK (pl mu p) 7 49 x)))) S n mu la) := by
  have h := c_depthOf (l := l) (n := n) (mu := mu) (la := la) (P := pl mu p) (t := x) hG hP
  rw [putK_pl] at h; exact h
theorem w_groups (hG : GP G) (hP : PlanS S p) : Ct G l yX5_groups wsX5_groups 0 0 0 [.ref p] S n mu la (Dt (some (.int (I32 (mu p 9 - mu p 10)))) S n mu la) := by
  have h := c_groups (l := l) (n := n) (mu := mu) (la := la) (P := pl mu p) hG hP
  rw [putK_pl] at h; exact h
theorem w_splits (hG : GP G) (hP : PlanS S p) : Ct G l yX5_splits wsX5_splits 0 0 0 [.ref p] S n mu la (Dt (some (.int (I32 (mu p 10)))) S n mu la) := by
  have h := c_splits (l := l) (n := n) (mu := mu) (la := la) (P := pl mu p) hG hP
  rw [putK_pl] at h; exact h
theorem w_tightSplits (hG : GP G) (hP : PlanS S p) : Ct G l yX5_tightSplits wsX5_tightSplits 0 0 0 [.ref p] S n mu la (Dt (some (.int (I32 (mu p 11)))) S n mu la) := by
  have h := c_tightSplits (l := l) (n := n) (mu := mu) (la := la) (P := pl mu p) hG hP
  rw [putK_pl] at h; exact h
theorem w_dividerCells (hG : GP G) (hP : PlanS S p) : Ct G l yX5_dividerCells wsX5_dividerCells 0 0 0 [.ref p] S n mu la (Dt (some (.int (I32 (mu p 12)))) S n mu la) := by
  have h := c_dividerCells (l := l) (n := n) (mu := mu) (la := la) (P := pl mu p) hG hP
  rw [putK_pl] at h; exact h
theorem w_leastOfRoot (hG : GP G) (hP : PlanS S p) (hR : R32 mu) {x : Int} : Ct G l yX5_leastOfRoot wsX5_leastOfRoot 2 0 0 [.ref p, .int (I32 x)] S n mu la (Dt (some (.int (I32 (lrF (pl mu p) x)))) S n mu la) := by
  have h := c_leastOfRoot (l := l) (n := n) (mu := mu) (la := la) (x := x) hG hP (pl_R hR p)
  rw [putK_pl] at h; exact h
theorem w_rowsBelowTabs (hG : GP G) (hP : PlanS S p) {x : Int} : Ct G l yX5_rowsBelowTabs wsX5_rowsBelowTabs 2 0 0 [.ref p, .int (I32 x)] S n mu la (Dt (some (.int (I32 (rbF (pl mu p) x)))) S n mu la) := by
  have h := c_rowsBelowTabs (l := l) (n := n) (mu := mu) (la := la) (P := pl mu p) (t := x) hG hP
  rw [putK_pl] at h; exact h
theorem w_isTight (hG : GP G) (hP : PlanS S p) (hR : R32 mu) {x : Int} : Ct G l yX5_isTight wsX5_isTight 1 0 0 [.ref p, .int (I32 x)] S n mu la (Dt (some (.int (I32 (tiF (pl mu p) x)))) S n mu la) := by
  have h := c_isTight (l := l) (n := n) (mu := mu) (la := la) (t := x) hG hP (pl_R hR p)
  rw [putK_pl] at h; exact h
theorem w_treeGroup (hG : GP G) (hP : PlanS S p) (hR : R32 mu) (hn : 0 ≤ mu p 9) {i : Int} (hi : -2147483648 ≤ i ∧ i ≤ 2147483647) : Ct G l yX5_treeGroup wsX5_treeGroup 1 0 0 [.ref p, .int (I32 i)] S n mu la (Dt (some (.int (I32 (tnF (pl mu p) i)))) S n mu la) := by
  have h := c_treeGroup (l := l) (n := n) (mu := mu) (la := la) hG hP (pl_R hR p) hn hi
  rw [putK_pl] at h; exact h
/-- the plan p worked out for the layout at b, the panes' least sizes at row w, a window x by y -/
def wkR (mu : Mem) (p b w : Nat) (x y : Int) : Mem := putK mu p 14 (wkF (pl mu p) (lay mu b) (mu w) x y)
theorem w_work (hG : GP G) (hP : PlanS S p) (hR : R32 mu) (hL : LayS S b) (hd : b + 8 < p ∨ p + 14 ≤ b + 1) {N : Int} (hB : Bd N (lay mu b)) (hN : 1 ≤ N ∧ N ≤ 16777216) {w : Nat} (hw : hasS S w (.inl (0, 32))) (hwd : w < p ∨ p + 14 ≤ w) {x y : Int} :
    Ct G l yX5_work wsX5_work 4 0 0 [.ref p, .ref b, .ref w, .int (I32 x), .int (I32 y)] S n mu la (Dt none S n (wkR mu p b w x y) la) := by
  have h := c_work (l := l) (n := n) (mu := mu) (la := la) (w := x) (h := y) hG hP (pl_R hR p) hL (LayAt_lay mu b) hd (lay_R hR b) (fun i => by have := gL_bd hB hN.1 2 i; omega) hw hwd (fun i => rfl) (fun i => hR w i)
  rw [putK_pl] at h; exact h
end WL
def pnF (mu : Mem) (c : Nat) (p : Int) : Int := if 0 ≤ p ∧ p < mu c 2 then 1 else 0
def frF (v lo hi : Int) : Int := if lo ≤ v ∧ v ≤ hi then 0 else 2
def fiF (i : Int) : Int := if 0 ≤ i then 0 else 2
def fwF (w h : Int) : Int := if 20 ≤ w ∧ w ≤ 400 ∧ 20 ≤ h ∧ h ≤ 400 then 0 else 2
def feF (w h : Int) : Int := if 1 ≤ w ∧ w ≤ 60 ∧ 1 ≤ h ∧ h ≤ 60 then 0 else 2
def fsF (v w : Int) : Int := if 0 ≤ v ∧ 0 ≤ w ∧ w ≤ 7 then 0 else 2
theorem pnF_b (mu : Mem) (c : Nat) (p : Int) : 0 ≤ pnF mu c p ∧ pnF mu c p ≤ 1 := by unfold pnF; split <;> omega
theorem frF_b (v a b : Int) : 0 ≤ frF v a b ∧ frF v a b ≤ 2 := by unfold frF; split <;> omega
theorem feF_b (v a : Int) : 0 ≤ feF v a ∧ feF v a ≤ 2 := by unfold feF; split <;> omega
section DK
variable {G : Gx} {l : Launch} {S : Sh} {n : Nat} {mu : Mem} {la : Lam} {a c h t p b q : Nat}
theorem dX8_faultOfRange_0 : decode cX8_faultOfRange 0 = .ok (.iload_n 0, 1) := by decide +kernel
theorem dX8_faultOfRange_1 : decode cX8_faultOfRange 1 = .ok (.iload_n 1, 1) := by decide +kernel
theorem dX8_faultOfRange_2 : decode cX8_faultOfRange 2 = .ok (.if_icmp .lt 12, 3) := by decide +kernel
theorem dX8_faultOfRange_5 : decode cX8_faultOfRange 5 = .ok (.iload_n 0, 1) := by decide +kernel
theorem dX8_faultOfRange_6 : decode cX8_faultOfRange 6 = .ok (.iload_n 2, 1) := by decide +kernel
theorem dX8_faultOfRange_7 : decode cX8_faultOfRange 7 = .ok (.if_icmp .gt 7, 3) := by decide +kernel
theorem dX8_faultOfRange_10 : decode cX8_faultOfRange 10 = .ok (.iconst 0, 1) := by decide +kernel
theorem dX8_faultOfRange_11 : decode cX8_faultOfRange 11 = .ok (.goto 4, 3) := by decide +kernel
theorem dX8_faultOfRange_14 : decode cX8_faultOfRange 14 = .ok (.iconst 2, 1) := by decide +kernel
theorem dX8_faultOfRange_15 : decode cX8_faultOfRange 15 = .ok (.ireturn, 1) := by decide +kernel
theorem k_faultOfRange (hG : GP G) {x y z : Int} (hx : -2147483648 ≤ x ∧ x ≤ 2147483647) (hy : -2147483648 ≤ y ∧ y ≤ 2147483647) (hz : -2147483648 ≤ z ∧ z ≤ 2147483647) : Ct G l yX8_faultOfRange wsX8_faultOfRange 0 0 0 [.int (I32 x), .int (I32 y), .int (I32 z)] S n mu la (Dt (some (.int (I32 (frF x y z)))) S n mu la) := by
  refine Ct.ofV (cc := cX8_faultOfRange) (nL := 3) (ret := (some .int)) [some (.int (I32 x)), some (.int (I32 y)), some (.int (I32 z))] hG (by decide) rfl (Nat.le_of_ble_eq_true rfl) rfl ?_
  rintro X rfl rfl C hcl hsl E
  refine V_iload_n C dX8_faultOfRange_0 rfl ?_
  refine V_iload_n C dX8_faultOfRange_1 rfl ?_
  refine V_icmp_lt C 14 dX8_faultOfRange_2 (by decide) (by omega) (by omega) (fun z2 => ?_) (fun z2 => ?_)
  · refine V_iconst C dX8_faultOfRange_14 ?_
    refine V_ireturn C E dX8_faultOfRange_15 (by omega) (by omega) ?_
    exact Dt_int (by unfold frF; (repeat' split) <;> omega)
  · refine V_iload_n C dX8_faultOfRange_5 rfl ?_
    refine V_iload_n C dX8_faultOfRange_6 rfl ?_
    refine V_icmp_gt C 14 dX8_faultOfRange_7 (by decide) (by omega) (by omega) (fun z7 => ?_) (fun z7 => ?_)
    · refine V_iconst C dX8_faultOfRange_14 ?_
      refine V_ireturn C E dX8_faultOfRange_15 (by omega) (by omega) ?_
      exact Dt_int (by unfold frF; (repeat' split) <;> omega)
    · refine V_iconst C dX8_faultOfRange_10 ?_
      refine V_goto C 15 dX8_faultOfRange_11 (by decide) ?_
      refine V_ireturn C E dX8_faultOfRange_15 (by omega) (by omega) ?_
      exact Dt_int (by unfold frF; (repeat' split) <;> omega)
theorem dX8_faultOfIndex_0 : decode cX8_faultOfIndex 0 = .ok (.iload_n 0, 1) := by decide +kernel
theorem dX8_faultOfIndex_1 : decode cX8_faultOfIndex 1 = .ok (.ifCond .lt 7, 3) := by decide +kernel
theorem dX8_faultOfIndex_4 : decode cX8_faultOfIndex 4 = .ok (.iconst 0, 1) := by decide +kernel
theorem dX8_faultOfIndex_5 : decode cX8_faultOfIndex 5 = .ok (.goto 4, 3) := by decide +kernel
theorem dX8_faultOfIndex_8 : decode cX8_faultOfIndex 8 = .ok (.iconst 2, 1) := by decide +kernel
theorem dX8_faultOfIndex_9 : decode cX8_faultOfIndex 9 = .ok (.ireturn, 1) := by decide +kernel
theorem k_faultOfIndex (hG : GP G) {x : Int} (hx : -2147483648 ≤ x ∧ x ≤ 2147483647) : Ct G l yX8_faultOfIndex wsX8_faultOfIndex 0 0 0 [.int (I32 x)] S n mu la (Dt (some (.int (I32 (fiF x)))) S n mu la) := by
  refine Ct.ofV (cc := cX8_faultOfIndex) (nL := 1) (ret := (some .int)) [some (.int (I32 x))] hG (by decide) rfl (Nat.le_of_ble_eq_true rfl) rfl ?_
  rintro X rfl rfl C hcl hsl E
  refine V_iload_n C dX8_faultOfIndex_0 rfl ?_
  refine V_if_lt C 8 dX8_faultOfIndex_1 (by decide) (by omega) (fun z1 => ?_) (fun z1 => ?_)
  · refine V_iconst C dX8_faultOfIndex_8 ?_
    refine V_ireturn C E dX8_faultOfIndex_9 (by omega) (by omega) ?_
    exact Dt_int (by unfold fiF; (repeat' split) <;> omega)
  · refine V_iconst C dX8_faultOfIndex_4 ?_
    refine V_goto C 9 dX8_faultOfIndex_5 (by decide) ?_
    refine V_ireturn C E dX8_faultOfIndex_9 (by omega) (by omega) ?_
    exact Dt_int (by unfold fiF; (repeat' split) <;> omega)
set_option maxRecDepth 20000 in
theorem ggX8_faultOfWindow_X8_faultOfRange : GoodIn wsX8_faultOfWindow wsX8_faultOfRange := goodIn_r _ [4] (by decide +kernel) (by decide +kernel)
set_option maxRecDepth 20000 in
theorem gX8_faultOfWindow_X8_faultOfRange : GoodIn wsX8_faultOfWindow (va_wsS RX8 200 yX8_faultOfRange wsX8_faultOfRange) := goodIn_app (goodIn_of _ (by decide +kernel)) ggX8_faultOfWindow_X8_faultOfRange
theorem dX8_faultOfWindow_0 : decode cX8_faultOfWindow 0 = .ok (.iload_n 0, 1) := by decide +kernel
theorem dX8_faultOfWindow_1 : decode cX8_faultOfWindow 1 = .ok (.bipush 20, 2) := by decide +kernel
theorem dX8_faultOfWindow_3 : decode cX8_faultOfWindow 3 = .ok (.sipush 400, 3) := by decide +kernel
theorem dX8_faultOfWindow_6 : decode cX8_faultOfWindow 6 = .ok (.invokestatic 200, 3) := by decide +kernel
theorem dX8_faultOfWindow_9 : decode cX8_faultOfWindow 9 = .ok (.istore_n 2, 1) := by decide +kernel
theorem dX8_faultOfWindow_10 : decode cX8_faultOfWindow 10 = .ok (.iload_n 2, 1) := by decide +kernel
theorem dX8_faultOfWindow_11 : decode cX8_faultOfWindow 11 = .ok (.ifCond .eq 7, 3) := by decide +kernel
theorem dX8_faultOfWindow_14 : decode cX8_faultOfWindow 14 = .ok (.iload_n 2, 1) := by decide +kernel
theorem dX8_faultOfWindow_15 : decode cX8_faultOfWindow 15 = .ok (.goto 12, 3) := by decide +kernel
theorem dX8_faultOfWindow_18 : decode cX8_faultOfWindow 18 = .ok (.iload_n 1, 1) := by decide +kernel
theorem dX8_faultOfWindow_19 : decode cX8_faultOfWindow 19 = .ok (.bipush 20, 2) := by decide +kernel
theorem dX8_faultOfWindow_21 : decode cX8_faultOfWindow 21 = .ok (.sipush 400, 3) := by decide +kernel
theorem dX8_faultOfWindow_24 : decode cX8_faultOfWindow 24 = .ok (.invokestatic 200, 3) := by decide +kernel
theorem dX8_faultOfWindow_27 : decode cX8_faultOfWindow 27 = .ok (.ireturn, 1) := by decide +kernel
theorem k_faultOfWindow (hG : GP G) {x y : Int} (hx : -2147483648 ≤ x ∧ x ≤ 2147483647) (hy : -2147483648 ≤ y ∧ y ≤ 2147483647) : Ct G l yX8_faultOfWindow wsX8_faultOfWindow 1 0 0 [.int (I32 x), .int (I32 y)] S n mu la (Dt (some (.int (I32 (fwF x y)))) S n mu la) := by
  have b1 := frF_b x 20 400
  refine Ct.ofV (cc := cX8_faultOfWindow) (nL := 3) (ret := (some .int)) [some (.int (I32 x)), some (.int (I32 y)), none] hG (by decide) rfl (Nat.le_of_ble_eq_true rfl) rfl ?_
  rintro X rfl rfl C hcl hsl E
  refine V_iload_n C dX8_faultOfWindow_0 rfl ?_
  refine V_bipush C dX8_faultOfWindow_1 (by decide +kernel) ?_
  refine V_sipush C dX8_faultOfWindow_3 (by decide +kernel) ?_
  refine V_callSD (nA := 3) C dX8_faultOfWindow_6 (k_faultOfRange C.gp hx (by omega) (by omega)) gX8_faultOfWindow_X8_faultOfRange rfl (by decide +kernel) rfl (by decide) (by decide) (Nat.le_of_ble_eq_true rfl) ⟨by omega, by omega⟩ rfl ?_
  refine V_istore_n C dX8_faultOfWindow_9 rfl (by decide) ?_
  refine V_iload_n C dX8_faultOfWindow_10 rfl ?_
  refine V_if_eq C 18 dX8_faultOfWindow_11 (by decide) (by omega) (fun z11 => ?_) (fun z11 => ?_)
  · refine V_iload_n C dX8_faultOfWindow_18 rfl ?_
    refine V_bipush C dX8_faultOfWindow_19 (by decide +kernel) ?_
    refine V_sipush C dX8_faultOfWindow_21 (by decide +kernel) ?_
    refine V_callSD (nA := 3) C dX8_faultOfWindow_24 (k_faultOfRange C.gp hy (by omega) (by omega)) gX8_faultOfWindow_X8_faultOfRange rfl (by decide +kernel) rfl (by decide) (by decide) (Nat.le_of_ble_eq_true rfl) ⟨by omega, by omega⟩ rfl ?_
    refine V_ireturn C E dX8_faultOfWindow_27 (by omega) (by omega) ?_
    exact Dt_int (by unfold fwF; unfold frF at *; (repeat' split) <;> ((repeat' split at *) <;> omega))
  · refine V_iload_n C dX8_faultOfWindow_14 rfl ?_
    refine V_goto C 27 dX8_faultOfWindow_15 (by decide) ?_
    refine V_ireturn C E dX8_faultOfWindow_27 (by omega) (by omega) ?_
    exact Dt_int (by unfold fwF; unfold frF at *; (repeat' split) <;> ((repeat' split at *) <;> omega))
set_option maxRecDepth 20000 in
theorem ggX8_faultOfLeast_X8_faultOfRange : GoodIn wsX8_faultOfLeast wsX8_faultOfRange := goodIn_r _ [4] (by decide +kernel) (by decide +kernel)
set_option maxRecDepth 20000 in
theorem gX8_faultOfLeast_X8_faultOfRange : GoodIn wsX8_faultOfLeast (va_wsS RX8 200 yX8_faultOfRange wsX8_faultOfRange) := goodIn_app (goodIn_of _ (by decide +kernel)) ggX8_faultOfLeast_X8_faultOfRange
theorem dX8_faultOfLeast_0 : decode cX8_faultOfLeast 0 = .ok (.iload_n 0, 1) := by decide +kernel
theorem dX8_faultOfLeast_1 : decode cX8_faultOfLeast 1 = .ok (.iconst 1, 1) := by decide +kernel
theorem dX8_faultOfLeast_2 : decode cX8_faultOfLeast 2 = .ok (.bipush 60, 2) := by decide +kernel
theorem dX8_faultOfLeast_4 : decode cX8_faultOfLeast 4 = .ok (.invokestatic 200, 3) := by decide +kernel
theorem dX8_faultOfLeast_7 : decode cX8_faultOfLeast 7 = .ok (.istore_n 2, 1) := by decide +kernel
theorem dX8_faultOfLeast_8 : decode cX8_faultOfLeast 8 = .ok (.iload_n 2, 1) := by decide +kernel
theorem dX8_faultOfLeast_9 : decode cX8_faultOfLeast 9 = .ok (.ifCond .eq 7, 3) := by decide +kernel
theorem dX8_faultOfLeast_12 : decode cX8_faultOfLeast 12 = .ok (.iload_n 2, 1) := by decide +kernel
theorem dX8_faultOfLeast_13 : decode cX8_faultOfLeast 13 = .ok (.goto 10, 3) := by decide +kernel
theorem dX8_faultOfLeast_16 : decode cX8_faultOfLeast 16 = .ok (.iload_n 1, 1) := by decide +kernel
theorem dX8_faultOfLeast_17 : decode cX8_faultOfLeast 17 = .ok (.iconst 1, 1) := by decide +kernel
theorem dX8_faultOfLeast_18 : decode cX8_faultOfLeast 18 = .ok (.bipush 60, 2) := by decide +kernel
theorem dX8_faultOfLeast_20 : decode cX8_faultOfLeast 20 = .ok (.invokestatic 200, 3) := by decide +kernel
theorem dX8_faultOfLeast_23 : decode cX8_faultOfLeast 23 = .ok (.ireturn, 1) := by decide +kernel
theorem k_faultOfLeast (hG : GP G) {x y : Int} (hx : -2147483648 ≤ x ∧ x ≤ 2147483647) (hy : -2147483648 ≤ y ∧ y ≤ 2147483647) : Ct G l yX8_faultOfLeast wsX8_faultOfLeast 1 0 0 [.int (I32 x), .int (I32 y)] S n mu la (Dt (some (.int (I32 (feF x y)))) S n mu la) := by
  have b1 := frF_b x 1 60
  refine Ct.ofV (cc := cX8_faultOfLeast) (nL := 3) (ret := (some .int)) [some (.int (I32 x)), some (.int (I32 y)), none] hG (by decide) rfl (Nat.le_of_ble_eq_true rfl) rfl ?_
  rintro X rfl rfl C hcl hsl E
  refine V_iload_n C dX8_faultOfLeast_0 rfl ?_
  refine V_iconst C dX8_faultOfLeast_1 ?_
  refine V_bipush C dX8_faultOfLeast_2 (by decide +kernel) ?_
  refine V_callSD (nA := 3) C dX8_faultOfLeast_4 (k_faultOfRange C.gp hx (by omega) (by omega)) gX8_faultOfLeast_X8_faultOfRange rfl (by decide +kernel) rfl (by decide) (by decide) (Nat.le_of_ble_eq_true rfl) ⟨by omega, by omega⟩ rfl ?_
  refine V_istore_n C dX8_faultOfLeast_7 rfl (by decide) ?_
  refine V_iload_n C dX8_faultOfLeast_8 rfl ?_
  refine V_if_eq C 16 dX8_faultOfLeast_9 (by decide) (by omega) (fun z9 => ?_) (fun z9 => ?_)
  · refine V_iload_n C dX8_faultOfLeast_16 rfl ?_
    refine V_iconst C dX8_faultOfLeast_17 ?_
    refine V_bipush C dX8_faultOfLeast_18 (by decide +kernel) ?_
    refine V_callSD (nA := 3) C dX8_faultOfLeast_20 (k_faultOfRange C.gp hy (by omega) (by omega)) gX8_faultOfLeast_X8_faultOfRange rfl (by decide +kernel) rfl (by decide) (by decide) (Nat.le_of_ble_eq_true rfl) ⟨by omega, by omega⟩ rfl ?_
    refine V_ireturn C E dX8_faultOfLeast_23 (by omega) (by omega) ?_
    exact Dt_int (by unfold feF; unfold frF at *; (repeat' split) <;> ((repeat' split at *) <;> omega))
  · refine V_iload_n C dX8_faultOfLeast_12 rfl ?_
    refine V_goto C 23 dX8_faultOfLeast_13 (by decide) ?_
    refine V_ireturn C E dX8_faultOfLeast_23 (by omega) (by omega) ?_
    exact Dt_int (by unfold feF; unfold frF at *; (repeat' split) <;> ((repeat' split at *) <;> omega))
set_option maxRecDepth 20000 in
theorem ggX8_faultOfSplitValue_X8_faultOfRange : GoodIn wsX8_faultOfSplitValue wsX8_faultOfRange := goodIn_r _ [4] (by decide +kernel) (by decide +kernel)
set_option maxRecDepth 20000 in
theorem gX8_faultOfSplitValue_X8_faultOfRange : GoodIn wsX8_faultOfSplitValue (va_wsS RX8 200 yX8_faultOfRange wsX8_faultOfRange) := goodIn_app (goodIn_of _ (by decide +kernel)) ggX8_faultOfSplitValue_X8_faultOfRange
theorem dX8_faultOfSplitValue_0 : decode cX8_faultOfSplitValue 0 = .ok (.iload_n 0, 1) := by decide +kernel
theorem dX8_faultOfSplitValue_1 : decode cX8_faultOfSplitValue 1 = .ok (.ifCond .ge 7, 3) := by decide +kernel
theorem dX8_faultOfSplitValue_4 : decode cX8_faultOfSplitValue 4 = .ok (.iconst 2, 1) := by decide +kernel
theorem dX8_faultOfSplitValue_5 : decode cX8_faultOfSplitValue 5 = .ok (.goto 10, 3) := by decide +kernel
theorem dX8_faultOfSplitValue_8 : decode cX8_faultOfSplitValue 8 = .ok (.iload_n 1, 1) := by decide +kernel
theorem dX8_faultOfSplitValue_9 : decode cX8_faultOfSplitValue 9 = .ok (.iconst 0, 1) := by decide +kernel
theorem dX8_faultOfSplitValue_10 : decode cX8_faultOfSplitValue 10 = .ok (.bipush 7, 2) := by decide +kernel
theorem dX8_faultOfSplitValue_12 : decode cX8_faultOfSplitValue 12 = .ok (.invokestatic 200, 3) := by decide +kernel
theorem dX8_faultOfSplitValue_15 : decode cX8_faultOfSplitValue 15 = .ok (.ireturn, 1) := by decide +kernel
theorem k_faultOfSplitValue (hG : GP G) {x y : Int} (hx : -2147483648 ≤ x ∧ x ≤ 2147483647) (hy : -2147483648 ≤ y ∧ y ≤ 2147483647) : Ct G l yX8_faultOfSplitValue wsX8_faultOfSplitValue 1 0 0 [.int (I32 x), .int (I32 y)] S n mu la (Dt (some (.int (I32 (fsF x y)))) S n mu la) := by
  refine Ct.ofV (cc := cX8_faultOfSplitValue) (nL := 2) (ret := (some .int)) [some (.int (I32 x)), some (.int (I32 y))] hG (by decide) rfl (Nat.le_of_ble_eq_true rfl) rfl ?_
  rintro X rfl rfl C hcl hsl E
  refine V_iload_n C dX8_faultOfSplitValue_0 rfl ?_
  refine V_if_ge C 8 dX8_faultOfSplitValue_1 (by decide) (by omega) (fun z1 => ?_) (fun z1 => ?_)
  · refine V_iload_n C dX8_faultOfSplitValue_8 rfl ?_
    refine V_iconst C dX8_faultOfSplitValue_9 ?_
    refine V_bipush C dX8_faultOfSplitValue_10 (by decide +kernel) ?_
    refine V_callSD (nA := 3) C dX8_faultOfSplitValue_12 (k_faultOfRange C.gp hy (by omega) (by omega)) gX8_faultOfSplitValue_X8_faultOfRange rfl (by decide +kernel) rfl (by decide) (by decide) (Nat.le_of_ble_eq_true rfl) ⟨by omega, by omega⟩ rfl ?_
    refine V_ireturn C E dX8_faultOfSplitValue_15 (by omega) (by omega) ?_
    exact Dt_int (by unfold fsF; (try unfold frF at *); (repeat' split) <;> ((repeat' split at *) <;> omega))
  · refine V_iconst C dX8_faultOfSplitValue_4 ?_
    refine V_goto C 15 dX8_faultOfSplitValue_5 (by decide) ?_
    refine V_ireturn C E dX8_faultOfSplitValue_15 (by omega) (by omega) ?_
    exact Dt_int (by unfold fsF; (try unfold frF at *); (repeat' split) <;> ((repeat' split at *) <;> omega))
theorem dX8_isPane_0 : decode cX8_isPane 0 = .ok (.iload_n 1, 1) := by decide +kernel
theorem dX8_isPane_1 : decode cX8_isPane 1 = .ok (.ifCond .lt 18, 3) := by decide +kernel
theorem dX8_isPane_4 : decode cX8_isPane 4 = .ok (.iload_n 1, 1) := by decide +kernel
theorem dX8_isPane_5 : decode cX8_isPane 5 = .ok (.aload_n 0, 1) := by decide +kernel
theorem dX8_isPane_6 : decode cX8_isPane 6 = .ok (.getfield 12, 3) := by decide +kernel
theorem dX8_isPane_9 : decode cX8_isPane 9 = .ok (.getfield 76, 3) := by decide +kernel
theorem dX8_isPane_12 : decode cX8_isPane 12 = .ok (.if_icmp .ge 7, 3) := by decide +kernel
theorem dX8_isPane_15 : decode cX8_isPane 15 = .ok (.iconst 1, 1) := by decide +kernel
theorem dX8_isPane_16 : decode cX8_isPane 16 = .ok (.goto 4, 3) := by decide +kernel
theorem dX8_isPane_19 : decode cX8_isPane 19 = .ok (.iconst 0, 1) := by decide +kernel
theorem dX8_isPane_20 : decode cX8_isPane 20 = .ok (.ireturn, 1) := by decide +kernel
theorem hin_X8_isPane_X8 : ∀ w ∈ wsX80, w ∈ wsX8_isPane := by decide +kernel
theorem lk_X8_isPane_12 : Cond.fieldLink RX8 12 RX8 "now" "LDockTree$State;" ∈ wsX8_isPane := by decide +kernel
theorem hin_X8_isPane_X7 : ∀ w ∈ wsX70, w ∈ wsX8_isPane := by decide +kernel
theorem k_isPane (hG : GP G) (hD : DoS S a c h t p b q) (hW : Wo mu c h t p) {x : Int} (hx : -2147483648 ≤ x ∧ x ≤ 2147483647) : Ct G l yX8_isPane wsX8_isPane 0 0 0 [.ref a, .int (I32 x)] S n mu la (Dt (some (.int (I32 (pnF mu c x)))) S n mu la) := by
  have o8 := hD.1
  have o7 := hD.2.1.1
  have hp := hW.2.2.1
  refine Ct.ofV (cc := cX8_isPane) (nL := 2) (ret := (some .boolean)) [some (.ref a), some (.int (I32 x))] hG (by decide) rfl (Nat.le_of_ble_eq_true rfl) rfl ?_
  rintro X rfl rfl C hcl hsl E
  refine V_iload_n C dX8_isPane_0 rfl ?_
  refine V_if_lt C 19 dX8_isPane_1 (by decide) (by omega) (fun z1 => ?_) (fun z1 => ?_)
  · refine V_iconst C dX8_isPane_19 ?_
    refine V_zreturn C E (by first | exact Or.inl rfl | exact Or.inr rfl) dX8_isPane_20 (by omega) (by omega) ?_
    exact Dt_int (by unfold pnF; (repeat' split) <;> omega)
  · refine V_iload_n C dX8_isPane_4 rfl ?_
    refine V_aload_n C dX8_isPane_5 rfl ?_
    refine V_getR C 0 dX8_isPane_6 o8 rfl hin_X8_isPane_X8 (by decide) lk_X8_isPane_12 rfl rfl ?_
    refine V_getNJ C 2 2 rfl (host := "DockTree") dX8_isPane_9 o7 rfl hin_X8_isPane_X7 (by decide) (by decide +kernel) rfl rfl rfl ?_
    refine V_icmp_ge C 19 dX8_isPane_12 (by decide) (by omega) (by omega) (fun z12 => ?_) (fun z12 => ?_)
    · refine V_iconst C dX8_isPane_19 ?_
      refine V_zreturn C E (by first | exact Or.inl rfl | exact Or.inr rfl) dX8_isPane_20 (by omega) (by omega) ?_
      exact Dt_int (by unfold pnF; (repeat' split) <;> omega)
    · refine V_iconst C dX8_isPane_15 ?_
      refine V_goto C 20 dX8_isPane_16 (by decide) ?_
      refine V_zreturn C E (by first | exact Or.inl rfl | exact Or.inr rfl) dX8_isPane_20 (by omega) (by omega) ?_
      exact Dt_int (by unfold pnF; (repeat' split) <;> omega)
def flF8 (mu : Mem) (c : Nat) (x : Int) : Int := if 0 ≤ x ∧ x ≤ 3 then (if hkF mu c x = 1 then 0 else 3) else 2
def fnF (mu : Mem) (c : Nat) (x y : Int) : Int := if feF x y = 0 then (if mu c 2 < 16 then 0 else 3) else 2
def fpF (mu : Mem) (c : Nat) (x : Int) : Int := if pnF mu c x = 1 then 0 else 1
def foF (mu : Mem) (c : Nat) (x : Int) : Int := if pnF mu c x = 1 then (if sttF (lay mu (c + 2)) x = 0 then 3 else 0) else 1
def faF (mu : Mem) (c : Nat) (x : Int) : Int := if pnF mu c x = 1 then (if sttF (lay mu (c + 2)) x = 2 then 0 else 3) else 1
theorem fpF_b (mu : Mem) (c : Nat) (p : Int) : 0 ≤ fpF mu c p ∧ fpF mu c p ≤ 1 := by unfold fpF; split <;> omega
theorem foF_b (mu : Mem) (c : Nat) (p : Int) : 0 ≤ foF mu c p ∧ foF mu c p ≤ 3 := by unfold foF; (repeat' split) <;> omega
theorem pnF_1 {mu : Mem} {c : Nat} {x : Int} (h : ¬ pnF mu c x = 0) (hp : mu c 2 ≤ 16) : 0 ≤ x ∧ x ≤ 15 := by unfold pnF at h; split at h <;> omega
set_option maxRecDepth 20000 in
theorem ggX8_faultOfNewPane_X8_faultOfLeast : GoodIn wsX8_faultOfNewPane wsX8_faultOfLeast := goodIn_r _ [5, 6, 7, 4, 8] (by decide +kernel) (by decide +kernel)
set_option maxRecDepth 20000 in
theorem gX8_faultOfNewPane_X8_faultOfLeast : GoodIn wsX8_faultOfNewPane (va_wsS RX8 83 yX8_faultOfLeast wsX8_faultOfLeast) := goodIn_app (goodIn_of _ (by decide +kernel)) ggX8_faultOfNewPane_X8_faultOfLeast
theorem dX8_faultOfNewPane_0 : decode cX8_faultOfNewPane 0 = .ok (.iload_n 1, 1) := by decide +kernel
theorem dX8_faultOfNewPane_1 : decode cX8_faultOfNewPane 1 = .ok (.iload_n 2, 1) := by decide +kernel
theorem dX8_faultOfNewPane_2 : decode cX8_faultOfNewPane 2 = .ok (.invokestatic 83, 3) := by decide +kernel
theorem dX8_faultOfNewPane_5 : decode cX8_faultOfNewPane 5 = .ok (.istore_n 3, 1) := by decide +kernel
theorem dX8_faultOfNewPane_6 : decode cX8_faultOfNewPane 6 = .ok (.iload_n 3, 1) := by decide +kernel
theorem dX8_faultOfNewPane_7 : decode cX8_faultOfNewPane 7 = .ok (.ifCond .ne 19, 3) := by decide +kernel
theorem dX8_faultOfNewPane_10 : decode cX8_faultOfNewPane 10 = .ok (.aload_n 0, 1) := by decide +kernel
theorem dX8_faultOfNewPane_11 : decode cX8_faultOfNewPane 11 = .ok (.getfield 12, 3) := by decide +kernel
theorem dX8_faultOfNewPane_14 : decode cX8_faultOfNewPane 14 = .ok (.getfield 76, 3) := by decide +kernel
theorem dX8_faultOfNewPane_17 : decode cX8_faultOfNewPane 17 = .ok (.bipush 16, 2) := by decide +kernel
theorem dX8_faultOfNewPane_19 : decode cX8_faultOfNewPane 19 = .ok (.if_icmp .lt 7, 3) := by decide +kernel
theorem dX8_faultOfNewPane_22 : decode cX8_faultOfNewPane 22 = .ok (.iconst 3, 1) := by decide +kernel
theorem dX8_faultOfNewPane_23 : decode cX8_faultOfNewPane 23 = .ok (.goto 4, 3) := by decide +kernel
theorem dX8_faultOfNewPane_26 : decode cX8_faultOfNewPane 26 = .ok (.iload_n 3, 1) := by decide +kernel
theorem dX8_faultOfNewPane_27 : decode cX8_faultOfNewPane 27 = .ok (.ireturn, 1) := by decide +kernel
theorem hin_X8_faultOfNewPane_X8 : ∀ w ∈ wsX80, w ∈ wsX8_faultOfNewPane := by decide +kernel
theorem lk_X8_faultOfNewPane_12 : Cond.fieldLink RX8 12 RX8 "now" "LDockTree$State;" ∈ wsX8_faultOfNewPane := by decide +kernel
theorem hin_X8_faultOfNewPane_X7 : ∀ w ∈ wsX70, w ∈ wsX8_faultOfNewPane := by decide +kernel
theorem k_faultOfNewPane (hG : GP G) (hD : DoS S a c h t p b q) (hW : Wo mu c h t p) {x y : Int} (hx : -2147483648 ≤ x ∧ x ≤ 2147483647) (hy : -2147483648 ≤ y ∧ y ≤ 2147483647) : Ct G l yX8_faultOfNewPane wsX8_faultOfNewPane 2 0 0 [.ref a, .int (I32 x), .int (I32 y)] S n mu la (Dt (some (.int (I32 (fnF mu c x y)))) S n mu la) := by
  have o8 := hD.1
  have o7 := hD.2.1.1
  have hp := hW.2.2.1
  have b1 : feF x y = 0 ∨ feF x y = 2 := by unfold feF; split <;> omega
  refine Ct.ofV (cc := cX8_faultOfNewPane) (nL := 4) (ret := (some .int)) [some (.ref a), some (.int (I32 x)), some (.int (I32 y)), none] hG (by decide) rfl (Nat.le_of_ble_eq_true rfl) rfl ?_
  rintro X rfl rfl C hcl hsl E
  refine V_iload_n C dX8_faultOfNewPane_0 rfl ?_
  refine V_iload_n C dX8_faultOfNewPane_1 rfl ?_
  refine V_callSD (nA := 2) C dX8_faultOfNewPane_2 (k_faultOfLeast C.gp hx hy) gX8_faultOfNewPane_X8_faultOfLeast rfl (by decide +kernel) rfl (by decide) (by decide) (Nat.le_of_ble_eq_true rfl) ⟨by omega, by omega⟩ rfl ?_
  refine V_istore_n C dX8_faultOfNewPane_5 rfl (by decide) ?_
  refine V_iload_n C dX8_faultOfNewPane_6 rfl ?_
  refine V_if_ne C 26 dX8_faultOfNewPane_7 (by decide) (by omega) (fun z7 => ?_) (fun z7 => ?_)
  · refine V_iload_n C dX8_faultOfNewPane_26 rfl ?_
    refine V_ireturn C E dX8_faultOfNewPane_27 (by omega) (by omega) ?_
    exact Dt_int (by unfold fnF; (repeat' split) <;> omega)
  · refine V_aload_n C dX8_faultOfNewPane_10 rfl ?_
    refine V_getR C 0 dX8_faultOfNewPane_11 o8 rfl hin_X8_faultOfNewPane_X8 (by decide) lk_X8_faultOfNewPane_12 rfl rfl ?_
    refine V_getNJ C 2 2 rfl (host := "DockTree") dX8_faultOfNewPane_14 o7 rfl hin_X8_faultOfNewPane_X7 (by decide) (by decide +kernel) rfl rfl rfl ?_
    refine V_bipush C dX8_faultOfNewPane_17 (by decide +kernel) ?_
    refine V_icmp_lt C 26 dX8_faultOfNewPane_19 (by decide) (by omega) (by omega) (fun z19 => ?_) (fun z19 => ?_)
    · refine V_iload_n C dX8_faultOfNewPane_26 rfl ?_
      refine V_ireturn C E dX8_faultOfNewPane_27 (by omega) (by omega) ?_
      exact Dt_int (by unfold fnF; (repeat' split) <;> omega)
    · refine V_iconst C dX8_faultOfNewPane_22 ?_
      refine V_goto C 27 dX8_faultOfNewPane_23 (by decide) ?_
      refine V_ireturn C E dX8_faultOfNewPane_27 (by omega) (by omega) ?_
      exact Dt_int (by unfold fnF; (repeat' split) <;> omega)
set_option maxRecDepth 20000 in
theorem ggX8_faultOfPane_X8_isPane : GoodIn wsX8_faultOfPane wsX8_isPane := goodIn_r _ [5, 6, 7, 8, 9, 10, 11, 12, 13, 14, 15, 16, 17, 18, 19] (by decide +kernel) (by decide +kernel)
set_option maxRecDepth 20000 in
theorem gX8_faultOfPane_X8_isPane : GoodIn wsX8_faultOfPane (wsV RX8 79 RX8 yX8_isPane wsX8_isPane) := goodIn_app (goodIn_of _ (by decide +kernel)) ggX8_faultOfPane_X8_isPane
theorem dX8_faultOfPane_0 : decode cX8_faultOfPane 0 = .ok (.aload_n 0, 1) := by decide +kernel
theorem dX8_faultOfPane_1 : decode cX8_faultOfPane 1 = .ok (.iload_n 1, 1) := by decide +kernel
theorem dX8_faultOfPane_2 : decode cX8_faultOfPane 2 = .ok (.invokevirtual 79, 3) := by decide +kernel
theorem dX8_faultOfPane_5 : decode cX8_faultOfPane 5 = .ok (.ifCond .eq 7, 3) := by decide +kernel
theorem dX8_faultOfPane_8 : decode cX8_faultOfPane 8 = .ok (.iconst 0, 1) := by decide +kernel
theorem dX8_faultOfPane_9 : decode cX8_faultOfPane 9 = .ok (.goto 4, 3) := by decide +kernel
theorem dX8_faultOfPane_12 : decode cX8_faultOfPane 12 = .ok (.iconst 1, 1) := by decide +kernel
theorem dX8_faultOfPane_13 : decode cX8_faultOfPane 13 = .ok (.ireturn, 1) := by decide +kernel
theorem k_faultOfPane (hG : GP G) (hD : DoS S a c h t p b q) (hW : Wo mu c h t p) {x : Int} (hx : -2147483648 ≤ x ∧ x ≤ 2147483647) : Ct G l yX8_faultOfPane wsX8_faultOfPane 1 0 0 [.ref a, .int (I32 x)] S n mu la (Dt (some (.int (I32 (fpF mu c x)))) S n mu la) := by
  have o8 := hD.1
  have b1 := pnF_b mu c x
  refine Ct.ofV (cc := cX8_faultOfPane) (nL := 2) (ret := (some .int)) [some (.ref a), some (.int (I32 x))] hG (by decide) rfl (Nat.le_of_ble_eq_true rfl) rfl ?_
  rintro X rfl rfl C hcl hsl E
  refine V_aload_n C dX8_faultOfPane_0 rfl ?_
  refine V_iload_n C dX8_faultOfPane_1 rfl ?_
  refine V_callVD (nA := 1) C dX8_faultOfPane_2 (k_isPane C.gp hD hW hx) gX8_faultOfPane_X8_isPane rfl o8 rfl (by decide +kernel) rfl (by decide) (by decide) (Nat.le_of_ble_eq_true rfl) ⟨by omega, by omega⟩ rfl ?_
  refine V_if_eq C 12 dX8_faultOfPane_5 (by decide) (by omega) (fun z5 => ?_) (fun z5 => ?_)
  · refine V_iconst C dX8_faultOfPane_12 ?_
    refine V_ireturn C E dX8_faultOfPane_13 (by omega) (by omega) ?_
    exact Dt_int (by unfold fpF; (repeat' split) <;> omega)
  · refine V_iconst C dX8_faultOfPane_8 ?_
    refine V_goto C 13 dX8_faultOfPane_9 (by decide) ?_
    refine V_ireturn C E dX8_faultOfPane_13 (by omega) (by omega) ?_
    exact Dt_int (by unfold fpF; (repeat' split) <;> omega)
set_option maxRecDepth 20000 in
theorem ggX8_faultOfOpenPane_X8_faultOfPane : GoodIn wsX8_faultOfOpenPane wsX8_faultOfPane := goodIn_r _ [6, 7, 8, 9, 5, 10, 1, 19, 20, 21, 22, 23, 24, 25, 26, 27, 28, 29, 30, 31] (by decide +kernel) (by decide +kernel)
set_option maxRecDepth 20000 in
theorem gX8_faultOfOpenPane_X8_faultOfPane : GoodIn wsX8_faultOfOpenPane (wsV RX8 134 RX8 yX8_faultOfPane wsX8_faultOfPane) := goodIn_app (goodIn_of _ (by decide +kernel)) ggX8_faultOfOpenPane_X8_faultOfPane
set_option maxRecDepth 20000 in
theorem ggX8_faultOfOpenPane_X4_stateOf : GoodIn wsX8_faultOfOpenPane wsX4_stateOf := goodIn_r _ [15, 16, 17, 5, 18, 32, 33, 34, 35, 36, 37, 38, 39] (by decide +kernel) (by decide +kernel)
set_option maxRecDepth 20000 in
theorem gX8_faultOfOpenPane_X4_stateOf : GoodIn wsX8_faultOfOpenPane (wsV RX8 137 RX4 yX4_stateOf wsX4_stateOf) := goodIn_app (goodIn_of _ (by decide +kernel)) ggX8_faultOfOpenPane_X4_stateOf
theorem dX8_faultOfOpenPane_0 : decode cX8_faultOfOpenPane 0 = .ok (.aload_n 0, 1) := by decide +kernel
theorem dX8_faultOfOpenPane_1 : decode cX8_faultOfOpenPane 1 = .ok (.iload_n 1, 1) := by decide +kernel
theorem dX8_faultOfOpenPane_2 : decode cX8_faultOfOpenPane 2 = .ok (.invokevirtual 134, 3) := by decide +kernel
theorem dX8_faultOfOpenPane_5 : decode cX8_faultOfOpenPane 5 = .ok (.istore_n 2, 1) := by decide +kernel
theorem dX8_faultOfOpenPane_6 : decode cX8_faultOfOpenPane 6 = .ok (.iload_n 2, 1) := by decide +kernel
theorem dX8_faultOfOpenPane_7 : decode cX8_faultOfOpenPane 7 = .ok (.ifCond .ne 21, 3) := by decide +kernel
theorem dX8_faultOfOpenPane_10 : decode cX8_faultOfOpenPane 10 = .ok (.aload_n 0, 1) := by decide +kernel
theorem dX8_faultOfOpenPane_11 : decode cX8_faultOfOpenPane 11 = .ok (.getfield 12, 3) := by decide +kernel
theorem dX8_faultOfOpenPane_14 : decode cX8_faultOfOpenPane 14 = .ok (.getfield 97, 3) := by decide +kernel
theorem dX8_faultOfOpenPane_17 : decode cX8_faultOfOpenPane 17 = .ok (.iload_n 1, 1) := by decide +kernel
theorem dX8_faultOfOpenPane_18 : decode cX8_faultOfOpenPane 18 = .ok (.invokevirtual 137, 3) := by decide +kernel
theorem dX8_faultOfOpenPane_21 : decode cX8_faultOfOpenPane 21 = .ok (.ifCond .ne 7, 3) := by decide +kernel
theorem dX8_faultOfOpenPane_24 : decode cX8_faultOfOpenPane 24 = .ok (.iconst 3, 1) := by decide +kernel
theorem dX8_faultOfOpenPane_25 : decode cX8_faultOfOpenPane 25 = .ok (.goto 4, 3) := by decide +kernel
theorem dX8_faultOfOpenPane_28 : decode cX8_faultOfOpenPane 28 = .ok (.iload_n 2, 1) := by decide +kernel
theorem dX8_faultOfOpenPane_29 : decode cX8_faultOfOpenPane 29 = .ok (.ireturn, 1) := by decide +kernel
theorem hin_X8_faultOfOpenPane_X8 : ∀ w ∈ wsX80, w ∈ wsX8_faultOfOpenPane := by decide +kernel
theorem lk_X8_faultOfOpenPane_12 : Cond.fieldLink RX8 12 RX8 "now" "LDockTree$State;" ∈ wsX8_faultOfOpenPane := by decide +kernel
theorem hin_X8_faultOfOpenPane_X7 : ∀ w ∈ wsX70, w ∈ wsX8_faultOfOpenPane := by decide +kernel
theorem k_faultOfOpenPane (hG : GP G) (hD : DoS S a c h t p b q) (hW : Wo mu c h t p) {x : Int} (hx : -2147483648 ≤ x ∧ x ≤ 2147483647) : Ct G l yX8_faultOfOpenPane wsX8_faultOfOpenPane 2 0 0 [.ref a, .int (I32 x)] S n mu la (Dt (some (.int (I32 (foF mu c x)))) S n mu la) := by
  have o8 := hD.1
  have o7 := hD.2.1.1
  have o4 := hD.2.1.2.2.1.1
  have b1 := fpF_b mu c x
  have b2 := stt_b (lay mu (c + 2)) x
  refine Ct.ofV (cc := cX8_faultOfOpenPane) (nL := 3) (ret := (some .int)) [some (.ref a), some (.int (I32 x)), none] hG (by decide) rfl (Nat.le_of_ble_eq_true rfl) rfl ?_
  rintro X rfl rfl C hcl hsl E
  refine V_aload_n C dX8_faultOfOpenPane_0 rfl ?_
  refine V_iload_n C dX8_faultOfOpenPane_1 rfl ?_
  refine V_callVD (nA := 1) C dX8_faultOfOpenPane_2 (k_faultOfPane C.gp hD hW hx) gX8_faultOfOpenPane_X8_faultOfPane rfl o8 rfl (by decide +kernel) rfl (by decide) (by decide) (Nat.le_of_ble_eq_true rfl) ⟨by omega, by omega⟩ rfl ?_
  refine V_istore_n C dX8_faultOfOpenPane_5 rfl (by decide) ?_
  refine V_iload_n C dX8_faultOfOpenPane_6 rfl ?_
  refine V_if_ne C 28 dX8_faultOfOpenPane_7 (by decide) (by omega) (fun z7 => ?_) (fun z7 => ?_)
  · refine V_iload_n C dX8_faultOfOpenPane_28 rfl ?_
    refine V_ireturn C E dX8_faultOfOpenPane_29 (by omega) (by omega) ?_
    exact Dt_int (by unfold foF; unfold fpF at *; (repeat' split) <;> ((repeat' split at *) <;> omega))
  · have h15 := pnF_1 (x := x) (by intro hz9; rw [fpF, if_neg (by omega)] at z7; omega) hW.2.2.1.2
    refine V_aload_n C dX8_faultOfOpenPane_10 rfl ?_
    refine V_getR C 0 dX8_faultOfOpenPane_11 o8 rfl hin_X8_faultOfOpenPane_X8 (by decide) lk_X8_faultOfOpenPane_12 rfl rfl ?_
    refine V_getNR C 4 (host := "DockTree") dX8_faultOfOpenPane_14 o7 rfl hin_X8_faultOfOpenPane_X7 (by decide) (by decide +kernel) rfl rfl ?_
    refine V_iload_n C dX8_faultOfOpenPane_17 rfl ?_
    refine V_callVD (nA := 1) C dX8_faultOfOpenPane_18 (w_stateOf C.gp hD.2.1.2.2.1 hW.2.1 (by omega)) gX8_faultOfOpenPane_X4_stateOf rfl o4 rfl (by decide +kernel) rfl (by decide) (by decide) (Nat.le_of_ble_eq_true rfl) ⟨by omega, by omega⟩ rfl ?_
    refine V_if_ne C 28 dX8_faultOfOpenPane_21 (by decide) (by omega) (fun z21 => ?_) (fun z21 => ?_)
    · refine V_iload_n C dX8_faultOfOpenPane_28 rfl ?_
      refine V_ireturn C E dX8_faultOfOpenPane_29 (by omega) (by omega) ?_
      exact Dt_int (by unfold foF; unfold fpF at *; (repeat' split) <;> ((repeat' split at *) <;> omega))
    · refine V_iconst C dX8_faultOfOpenPane_24 ?_
      refine V_goto C 29 dX8_faultOfOpenPane_25 (by decide) ?_
      refine V_ireturn C E dX8_faultOfOpenPane_29 (by omega) (by omega) ?_
      exact Dt_int (by unfold foF; unfold fpF at *; (repeat' split) <;> ((repeat' split at *) <;> omega))
set_option maxRecDepth 20000 in
theorem ggX8_faultOfRaising_X8_faultOfPane : GoodIn wsX8_faultOfRaising wsX8_faultOfPane := goodIn_r _ [6, 7, 8, 9, 5, 10, 1, 19, 20, 21, 22, 23, 24, 25, 26, 27, 28, 29, 30, 31] (by decide +kernel) (by decide +kernel)
set_option maxRecDepth 20000 in
theorem gX8_faultOfRaising_X8_faultOfPane : GoodIn wsX8_faultOfRaising (wsV RX8 134 RX8 yX8_faultOfPane wsX8_faultOfPane) := goodIn_app (goodIn_of _ (by decide +kernel)) ggX8_faultOfRaising_X8_faultOfPane
set_option maxRecDepth 20000 in
theorem ggX8_faultOfRaising_X4_stateOf : GoodIn wsX8_faultOfRaising wsX4_stateOf := goodIn_r _ [15, 16, 17, 5, 18, 32, 33, 34, 35, 36, 37, 38, 39] (by decide +kernel) (by decide +kernel)
set_option maxRecDepth 20000 in
theorem gX8_faultOfRaising_X4_stateOf : GoodIn wsX8_faultOfRaising (wsV RX8 137 RX4 yX4_stateOf wsX4_stateOf) := goodIn_app (goodIn_of _ (by decide +kernel)) ggX8_faultOfRaising_X4_stateOf
theorem dX8_faultOfRaising_0 : decode cX8_faultOfRaising 0 = .ok (.aload_n 0, 1) := by decide +kernel
theorem dX8_faultOfRaising_1 : decode cX8_faultOfRaising 1 = .ok (.iload_n 1, 1) := by decide +kernel
theorem dX8_faultOfRaising_2 : decode cX8_faultOfRaising 2 = .ok (.invokevirtual 134, 3) := by decide +kernel
theorem dX8_faultOfRaising_5 : decode cX8_faultOfRaising 5 = .ok (.istore_n 2, 1) := by decide +kernel
theorem dX8_faultOfRaising_6 : decode cX8_faultOfRaising 6 = .ok (.iload_n 2, 1) := by decide +kernel
theorem dX8_faultOfRaising_7 : decode cX8_faultOfRaising 7 = .ok (.ifCond .ne 22, 3) := by decide +kernel
theorem dX8_faultOfRaising_10 : decode cX8_faultOfRaising 10 = .ok (.aload_n 0, 1) := by decide +kernel
theorem dX8_faultOfRaising_11 : decode cX8_faultOfRaising 11 = .ok (.getfield 12, 3) := by decide +kernel
theorem dX8_faultOfRaising_14 : decode cX8_faultOfRaising 14 = .ok (.getfield 97, 3) := by decide +kernel
theorem dX8_faultOfRaising_17 : decode cX8_faultOfRaising 17 = .ok (.iload_n 1, 1) := by decide +kernel
theorem dX8_faultOfRaising_18 : decode cX8_faultOfRaising 18 = .ok (.invokevirtual 137, 3) := by decide +kernel
theorem dX8_faultOfRaising_21 : decode cX8_faultOfRaising 21 = .ok (.iconst 2, 1) := by decide +kernel
theorem dX8_faultOfRaising_22 : decode cX8_faultOfRaising 22 = .ok (.if_icmp .eq 7, 3) := by decide +kernel
theorem dX8_faultOfRaising_25 : decode cX8_faultOfRaising 25 = .ok (.iconst 3, 1) := by decide +kernel
theorem dX8_faultOfRaising_26 : decode cX8_faultOfRaising 26 = .ok (.goto 4, 3) := by decide +kernel
theorem dX8_faultOfRaising_29 : decode cX8_faultOfRaising 29 = .ok (.iload_n 2, 1) := by decide +kernel
theorem dX8_faultOfRaising_30 : decode cX8_faultOfRaising 30 = .ok (.ireturn, 1) := by decide +kernel
theorem hin_X8_faultOfRaising_X8 : ∀ w ∈ wsX80, w ∈ wsX8_faultOfRaising := by decide +kernel
theorem lk_X8_faultOfRaising_12 : Cond.fieldLink RX8 12 RX8 "now" "LDockTree$State;" ∈ wsX8_faultOfRaising := by decide +kernel
theorem hin_X8_faultOfRaising_X7 : ∀ w ∈ wsX70, w ∈ wsX8_faultOfRaising := by decide +kernel
theorem k_faultOfRaising (hG : GP G) (hD : DoS S a c h t p b q) (hW : Wo mu c h t p) {x : Int} (hx : -2147483648 ≤ x ∧ x ≤ 2147483647) : Ct G l yX8_faultOfRaising wsX8_faultOfRaising 2 0 0 [.ref a, .int (I32 x)] S n mu la (Dt (some (.int (I32 (faF mu c x)))) S n mu la) := by
  have o8 := hD.1
  have o7 := hD.2.1.1
  have o4 := hD.2.1.2.2.1.1
  have b1 := fpF_b mu c x
  have b2 := stt_b (lay mu (c + 2)) x
  refine Ct.ofV (cc := cX8_faultOfRaising) (nL := 3) (ret := (some .int)) [some (.ref a), some (.int (I32 x)), none] hG (by decide) rfl (Nat.le_of_ble_eq_true rfl) rfl ?_
  rintro X rfl rfl C hcl hsl E
  refine V_aload_n C dX8_faultOfRaising_0 rfl ?_
  refine V_iload_n C dX8_faultOfRaising_1 rfl ?_
  refine V_callVD (nA := 1) C dX8_faultOfRaising_2 (k_faultOfPane C.gp hD hW hx) gX8_faultOfRaising_X8_faultOfPane rfl o8 rfl (by decide +kernel) rfl (by decide) (by decide) (Nat.le_of_ble_eq_true rfl) ⟨by omega, by omega⟩ rfl ?_
  refine V_istore_n C dX8_faultOfRaising_5 rfl (by decide) ?_
  refine V_iload_n C dX8_faultOfRaising_6 rfl ?_
  refine V_if_ne C 29 dX8_faultOfRaising_7 (by decide) (by omega) (fun z7 => ?_) (fun z7 => ?_)
  · refine V_iload_n C dX8_faultOfRaising_29 rfl ?_
    refine V_ireturn C E dX8_faultOfRaising_30 (by omega) (by omega) ?_
    exact Dt_int (by unfold faF; unfold fpF at *; (repeat' split) <;> ((repeat' split at *) <;> omega))
  · have h15 := pnF_1 (x := x) (by intro hz9; rw [fpF, if_neg (by omega)] at z7; omega) hW.2.2.1.2
    refine V_aload_n C dX8_faultOfRaising_10 rfl ?_
    refine V_getR C 0 dX8_faultOfRaising_11 o8 rfl hin_X8_faultOfRaising_X8 (by decide) lk_X8_faultOfRaising_12 rfl rfl ?_
    refine V_getNR C 4 (host := "DockTree") dX8_faultOfRaising_14 o7 rfl hin_X8_faultOfRaising_X7 (by decide) (by decide +kernel) rfl rfl ?_
    refine V_iload_n C dX8_faultOfRaising_17 rfl ?_
    refine V_callVD (nA := 1) C dX8_faultOfRaising_18 (w_stateOf C.gp hD.2.1.2.2.1 hW.2.1 (by omega)) gX8_faultOfRaising_X4_stateOf rfl o4 rfl (by decide +kernel) rfl (by decide) (by decide) (Nat.le_of_ble_eq_true rfl) ⟨by omega, by omega⟩ rfl ?_
    refine V_iconst C dX8_faultOfRaising_21 ?_
    refine V_icmp_eq C 29 dX8_faultOfRaising_22 (by decide) (by omega) (by omega) (fun z22 => ?_) (fun z22 => ?_)
    · refine V_iload_n C dX8_faultOfRaising_29 rfl ?_
      refine V_ireturn C E dX8_faultOfRaising_30 (by omega) (by omega) ?_
      exact Dt_int (by unfold faF; unfold fpF at *; (repeat' split) <;> ((repeat' split at *) <;> omega))
    · refine V_iconst C dX8_faultOfRaising_25 ?_
      refine V_goto C 30 dX8_faultOfRaising_26 (by decide) ?_
      refine V_ireturn C E dX8_faultOfRaising_30 (by omega) (by omega) ?_
      exact Dt_int (by unfold faF; unfold fpF at *; (repeat' split) <;> ((repeat' split at *) <;> omega))
def fmF (mu : Mem) (c : Nat) (x y : Int) : Int := if foF mu c x = 0 then frF y 0 (gL (lay mu (c + 2)) 2 (gL (lay mu (c + 2)) 0 x) - 1) else foF mu c x
set_option maxRecDepth 20000 in
theorem ggX8_faultOfMoving_X8_faultOfOpenPane : GoodIn wsX8_faultOfMoving wsX8_faultOfOpenPane := goodIn_r _ [6, 1, 7, 8, 9, 5, 10, 11, 12, 13, 14, 15, 16, 17, 18, 19, 20, 21, 22, 35, 36, 37, 38, 39, 40, 41, 42, 43, 44, 45, 46, 47, 48, 49, 50, 51, 52, 53, 54, 55] (by decide +kernel) (by decide +kernel)
set_option maxRecDepth 20000 in
theorem gX8_faultOfMoving_X8_faultOfOpenPane : GoodIn wsX8_faultOfMoving (wsV RX8 143 RX8 yX8_faultOfOpenPane wsX8_faultOfOpenPane) := goodIn_app (goodIn_of _ (by decide +kernel)) ggX8_faultOfMoving_X8_faultOfOpenPane
set_option maxRecDepth 20000 in
theorem ggX8_faultOfMoving_X4_holderOf : GoodIn wsX8_faultOfMoving wsX4_holderOf := goodIn_r _ [26, 20, 21, 5, 22, 48, 49, 50, 51, 52, 53, 54, 55] (by decide +kernel) (by decide +kernel)
set_option maxRecDepth 20000 in
theorem gX8_faultOfMoving_X4_holderOf : GoodIn wsX8_faultOfMoving (wsV RX8 103 RX4 yX4_holderOf wsX4_holderOf) := goodIn_app (goodIn_of _ (by decide +kernel)) ggX8_faultOfMoving_X4_holderOf
set_option maxRecDepth 20000 in
theorem ggX8_faultOfMoving_X4_countOf : GoodIn wsX8_faultOfMoving wsX4_countOf := goodIn_r _ [30, 31, 21, 5, 22, 48, 49, 50, 51, 52, 53, 54, 55] (by decide +kernel) (by decide +kernel)
set_option maxRecDepth 20000 in
theorem gX8_faultOfMoving_X4_countOf : GoodIn wsX8_faultOfMoving (wsV RX8 107 RX4 yX4_countOf wsX4_countOf) := goodIn_app (goodIn_of _ (by decide +kernel)) ggX8_faultOfMoving_X4_countOf
set_option maxRecDepth 20000 in
theorem ggX8_faultOfMoving_X8_faultOfRange : GoodIn wsX8_faultOfMoving wsX8_faultOfRange := goodIn_r _ [34] (by decide +kernel) (by decide +kernel)
set_option maxRecDepth 20000 in
theorem gX8_faultOfMoving_X8_faultOfRange : GoodIn wsX8_faultOfMoving (va_wsS RX8 200 yX8_faultOfRange wsX8_faultOfRange) := goodIn_app (goodIn_of _ (by decide +kernel)) ggX8_faultOfMoving_X8_faultOfRange
theorem dX8_faultOfMoving_0 : decode cX8_faultOfMoving 0 = .ok (.aload_n 0, 1) := by decide +kernel
theorem dX8_faultOfMoving_1 : decode cX8_faultOfMoving 1 = .ok (.iload_n 1, 1) := by decide +kernel
theorem dX8_faultOfMoving_2 : decode cX8_faultOfMoving 2 = .ok (.invokevirtual 143, 3) := by decide +kernel
theorem dX8_faultOfMoving_5 : decode cX8_faultOfMoving 5 = .ok (.istore_n 3, 1) := by decide +kernel
theorem dX8_faultOfMoving_6 : decode cX8_faultOfMoving 6 = .ok (.iload_n 3, 1) := by decide +kernel
theorem dX8_faultOfMoving_7 : decode cX8_faultOfMoving 7 = .ok (.ifCond .eq 7, 3) := by decide +kernel
theorem dX8_faultOfMoving_10 : decode cX8_faultOfMoving 10 = .ok (.iload_n 3, 1) := by decide +kernel
theorem dX8_faultOfMoving_11 : decode cX8_faultOfMoving 11 = .ok (.goto 31, 3) := by decide +kernel
theorem dX8_faultOfMoving_14 : decode cX8_faultOfMoving 14 = .ok (.iload_n 2, 1) := by decide +kernel
theorem dX8_faultOfMoving_15 : decode cX8_faultOfMoving 15 = .ok (.iconst 0, 1) := by decide +kernel
theorem dX8_faultOfMoving_16 : decode cX8_faultOfMoving 16 = .ok (.aload_n 0, 1) := by decide +kernel
theorem dX8_faultOfMoving_17 : decode cX8_faultOfMoving 17 = .ok (.getfield 12, 3) := by decide +kernel
theorem dX8_faultOfMoving_20 : decode cX8_faultOfMoving 20 = .ok (.getfield 97, 3) := by decide +kernel
theorem dX8_faultOfMoving_23 : decode cX8_faultOfMoving 23 = .ok (.aload_n 0, 1) := by decide +kernel
theorem dX8_faultOfMoving_24 : decode cX8_faultOfMoving 24 = .ok (.getfield 12, 3) := by decide +kernel
theorem dX8_faultOfMoving_27 : decode cX8_faultOfMoving 27 = .ok (.getfield 97, 3) := by decide +kernel
theorem dX8_faultOfMoving_30 : decode cX8_faultOfMoving 30 = .ok (.iload_n 1, 1) := by decide +kernel
theorem dX8_faultOfMoving_31 : decode cX8_faultOfMoving 31 = .ok (.invokevirtual 103, 3) := by decide +kernel
theorem dX8_faultOfMoving_34 : decode cX8_faultOfMoving 34 = .ok (.invokevirtual 107, 3) := by decide +kernel
theorem dX8_faultOfMoving_37 : decode cX8_faultOfMoving 37 = .ok (.iconst 1, 1) := by decide +kernel
theorem dX8_faultOfMoving_38 : decode cX8_faultOfMoving 38 = .ok (.isub, 1) := by decide +kernel
theorem dX8_faultOfMoving_39 : decode cX8_faultOfMoving 39 = .ok (.invokestatic 200, 3) := by decide +kernel
theorem dX8_faultOfMoving_42 : decode cX8_faultOfMoving 42 = .ok (.ireturn, 1) := by decide +kernel
theorem hin_X8_faultOfMoving_X8 : ∀ w ∈ wsX80, w ∈ wsX8_faultOfMoving := by decide +kernel
theorem lk_X8_faultOfMoving_12 : Cond.fieldLink RX8 12 RX8 "now" "LDockTree$State;" ∈ wsX8_faultOfMoving := by decide +kernel
theorem hin_X8_faultOfMoving_X7 : ∀ w ∈ wsX70, w ∈ wsX8_faultOfMoving := by decide +kernel
theorem k_faultOfMoving (hG : GP G) (hD : DoS S a c h t p b q) (hW : Wo mu c h t p) {x y : Int} (hx : -2147483648 ≤ x ∧ x ≤ 2147483647) (hy : -2147483648 ≤ y ∧ y ≤ 2147483647) : Ct G l yX8_faultOfMoving wsX8_faultOfMoving 3 0 0 [.ref a, .int (I32 x), .int (I32 y)] S n mu la (Dt (some (.int (I32 (fmF mu c x y)))) S n mu la) := by
  have o8 := hD.1
  have o7 := hD.2.1.1
  have o4 := hD.2.1.2.2.1.1
  have b1 := foF_b mu c x
  have b3 := gL_bd hW.2.1 (by omega) 2 (gL (lay mu (c + 2)) 0 x)
  refine Ct.ofV (cc := cX8_faultOfMoving) (nL := 4) (ret := (some .int)) [some (.ref a), some (.int (I32 x)), some (.int (I32 y)), none] hG (by decide) rfl (Nat.le_of_ble_eq_true rfl) rfl ?_
  rintro X rfl rfl C hcl hsl E
  refine V_aload_n C dX8_faultOfMoving_0 rfl ?_
  refine V_iload_n C dX8_faultOfMoving_1 rfl ?_
  refine V_callVD (nA := 1) C dX8_faultOfMoving_2 (k_faultOfOpenPane C.gp hD hW hx) gX8_faultOfMoving_X8_faultOfOpenPane rfl o8 rfl (by decide +kernel) rfl (by decide) (by decide) (Nat.le_of_ble_eq_true rfl) ⟨by omega, by omega⟩ rfl ?_
  refine V_istore_n C dX8_faultOfMoving_5 rfl (by decide) ?_
  refine V_iload_n C dX8_faultOfMoving_6 rfl ?_
  refine V_if_eq C 14 dX8_faultOfMoving_7 (by decide) (by omega) (fun z7 => ?_) (fun z7 => ?_)
  · refine V_iload_n C dX8_faultOfMoving_14 rfl ?_
    refine V_iconst C dX8_faultOfMoving_15 ?_
    refine V_aload_n C dX8_faultOfMoving_16 rfl ?_
    refine V_getR C 0 dX8_faultOfMoving_17 o8 rfl hin_X8_faultOfMoving_X8 (by decide) lk_X8_faultOfMoving_12 rfl rfl ?_
    refine V_getNR C 4 (host := "DockTree") dX8_faultOfMoving_20 o7 rfl hin_X8_faultOfMoving_X7 (by decide) (by decide +kernel) rfl rfl ?_
    refine V_aload_n C dX8_faultOfMoving_23 rfl ?_
    refine V_getR C 0 dX8_faultOfMoving_24 o8 rfl hin_X8_faultOfMoving_X8 (by decide) lk_X8_faultOfMoving_12 rfl rfl ?_
    refine V_getNR C 4 (host := "DockTree") dX8_faultOfMoving_27 o7 rfl hin_X8_faultOfMoving_X7 (by decide) (by decide +kernel) rfl rfl ?_
    refine V_iload_n C dX8_faultOfMoving_30 rfl ?_
    refine V_callVD (nA := 1) C dX8_faultOfMoving_31 (w_holderOf C.gp hD.2.1.2.2.1) gX8_faultOfMoving_X4_holderOf rfl o4 rfl (by decide +kernel) rfl (by decide) (by decide) (Nat.le_of_ble_eq_true rfl) ⟨by omega, by omega⟩ rfl ?_
    refine V_callVD (nA := 1) C dX8_faultOfMoving_34 (w_countOf C.gp hD.2.1.2.2.1) gX8_faultOfMoving_X4_countOf rfl o4 rfl (by decide +kernel) rfl (by decide) (by decide) (Nat.le_of_ble_eq_true rfl) ⟨by omega, by omega⟩ rfl ?_
    refine V_iconst C dX8_faultOfMoving_37 ?_
    refine V_isub C dX8_faultOfMoving_38 ?_
    refine V_callSD (nA := 3) C dX8_faultOfMoving_39 (k_faultOfRange C.gp hy (by omega) (by omega)) gX8_faultOfMoving_X8_faultOfRange rfl (by decide +kernel) rfl (by decide) (by decide) (Nat.le_of_ble_eq_true rfl) ⟨by omega, by omega⟩ rfl ?_
    refine V_ireturn C E dX8_faultOfMoving_42 (by omega) (by omega) ?_
    exact Dt_int (by unfold fmF; (repeat' split) <;> omega)
  · refine V_iload_n C dX8_faultOfMoving_10 rfl ?_
    refine V_goto C 42 dX8_faultOfMoving_11 (by decide) ?_
    refine V_ireturn C E dX8_faultOfMoving_42 (by omega) (by omega) ?_
    exact Dt_int (by unfold fmF; (repeat' split) <;> omega)
def fdF (mu : Mem) (c : Nat) (x y z : Int) : Int :=
  if pnF mu c x = 1 ∧ pnF mu c y = 1 then (if x = y ∨ z < 0 ∨ 4 < z then 2 else if sttF (lay mu (c + 2)) y = 1 ∨ sttF (lay mu (c + 2)) y = 2 ∧ z = 4 then 0 else 3) else 1
set_option maxRecDepth 20000 in
theorem ggX8_faultOfDocking_X8_isPane : GoodIn wsX8_faultOfDocking wsX8_isPane := goodIn_r _ [6, 1, 15, 16, 17, 18, 19, 20, 21, 22, 23, 24, 25, 26, 27] (by decide +kernel) (by decide +kernel)
set_option maxRecDepth 20000 in
theorem gX8_faultOfDocking_X8_isPane : GoodIn wsX8_faultOfDocking (wsV RX8 79 RX8 yX8_isPane wsX8_isPane) := goodIn_app (goodIn_of _ (by decide +kernel)) ggX8_faultOfDocking_X8_isPane
set_option maxRecDepth 20000 in
theorem ggX8_faultOfDocking_X4_stateOf : GoodIn wsX8_faultOfDocking wsX4_stateOf := goodIn_r _ [11, 12, 13, 5, 14, 28, 29, 30, 31, 32, 33, 34, 35] (by decide +kernel) (by decide +kernel)
set_option maxRecDepth 20000 in
theorem gX8_faultOfDocking_X4_stateOf : GoodIn wsX8_faultOfDocking (wsV RX8 137 RX4 yX4_stateOf wsX4_stateOf) := goodIn_app (goodIn_of _ (by decide +kernel)) ggX8_faultOfDocking_X4_stateOf
theorem dX8_faultOfDocking_0 : decode cX8_faultOfDocking 0 = .ok (.aload_n 0, 1) := by decide +kernel
theorem dX8_faultOfDocking_1 : decode cX8_faultOfDocking 1 = .ok (.iload_n 1, 1) := by decide +kernel
theorem dX8_faultOfDocking_2 : decode cX8_faultOfDocking 2 = .ok (.invokevirtual 79, 3) := by decide +kernel
theorem dX8_faultOfDocking_5 : decode cX8_faultOfDocking 5 = .ok (.ifCond .eq 11, 3) := by decide +kernel
theorem dX8_faultOfDocking_8 : decode cX8_faultOfDocking 8 = .ok (.aload_n 0, 1) := by decide +kernel
theorem dX8_faultOfDocking_9 : decode cX8_faultOfDocking 9 = .ok (.iload_n 2, 1) := by decide +kernel
theorem dX8_faultOfDocking_10 : decode cX8_faultOfDocking 10 = .ok (.invokevirtual 79, 3) := by decide +kernel
theorem dX8_faultOfDocking_13 : decode cX8_faultOfDocking 13 = .ok (.ifCond .ne 5, 3) := by decide +kernel
theorem dX8_faultOfDocking_16 : decode cX8_faultOfDocking 16 = .ok (.iconst 1, 1) := by decide +kernel
theorem dX8_faultOfDocking_17 : decode cX8_faultOfDocking 17 = .ok (.ireturn, 1) := by decide +kernel
theorem dX8_faultOfDocking_18 : decode cX8_faultOfDocking 18 = .ok (.iload_n 1, 1) := by decide +kernel
theorem dX8_faultOfDocking_19 : decode cX8_faultOfDocking 19 = .ok (.iload_n 2, 1) := by decide +kernel
theorem dX8_faultOfDocking_20 : decode cX8_faultOfDocking 20 = .ok (.if_icmp .eq 12, 3) := by decide +kernel
theorem dX8_faultOfDocking_23 : decode cX8_faultOfDocking 23 = .ok (.iload_n 3, 1) := by decide +kernel
theorem dX8_faultOfDocking_24 : decode cX8_faultOfDocking 24 = .ok (.ifCond .lt 8, 3) := by decide +kernel
theorem dX8_faultOfDocking_27 : decode cX8_faultOfDocking 27 = .ok (.iload_n 3, 1) := by decide +kernel
theorem dX8_faultOfDocking_28 : decode cX8_faultOfDocking 28 = .ok (.iconst 4, 1) := by decide +kernel
theorem dX8_faultOfDocking_29 : decode cX8_faultOfDocking 29 = .ok (.if_icmp .le 5, 3) := by decide +kernel
theorem dX8_faultOfDocking_32 : decode cX8_faultOfDocking 32 = .ok (.iconst 2, 1) := by decide +kernel
theorem dX8_faultOfDocking_33 : decode cX8_faultOfDocking 33 = .ok (.ireturn, 1) := by decide +kernel
theorem dX8_faultOfDocking_34 : decode cX8_faultOfDocking 34 = .ok (.aload_n 0, 1) := by decide +kernel
theorem dX8_faultOfDocking_35 : decode cX8_faultOfDocking 35 = .ok (.getfield 12, 3) := by decide +kernel
theorem dX8_faultOfDocking_38 : decode cX8_faultOfDocking 38 = .ok (.getfield 97, 3) := by decide +kernel
theorem dX8_faultOfDocking_41 : decode cX8_faultOfDocking 41 = .ok (.iload_n 2, 1) := by decide +kernel
theorem dX8_faultOfDocking_42 : decode cX8_faultOfDocking 42 = .ok (.invokevirtual 137, 3) := by decide +kernel
theorem dX8_faultOfDocking_45 : decode cX8_faultOfDocking 45 = .ok (.istore 4, 2) := by decide +kernel
theorem dX8_faultOfDocking_47 : decode cX8_faultOfDocking 47 = .ok (.iload 4, 2) := by decide +kernel
theorem dX8_faultOfDocking_49 : decode cX8_faultOfDocking 49 = .ok (.iconst 1, 1) := by decide +kernel
theorem dX8_faultOfDocking_50 : decode cX8_faultOfDocking 50 = .ok (.if_icmp .eq 14, 3) := by decide +kernel
theorem dX8_faultOfDocking_53 : decode cX8_faultOfDocking 53 = .ok (.iload 4, 2) := by decide +kernel
theorem dX8_faultOfDocking_55 : decode cX8_faultOfDocking 55 = .ok (.iconst 2, 1) := by decide +kernel
theorem dX8_faultOfDocking_56 : decode cX8_faultOfDocking 56 = .ok (.if_icmp .ne 12, 3) := by decide +kernel
theorem dX8_faultOfDocking_59 : decode cX8_faultOfDocking 59 = .ok (.iload_n 3, 1) := by decide +kernel
theorem dX8_faultOfDocking_60 : decode cX8_faultOfDocking 60 = .ok (.iconst 4, 1) := by decide +kernel
theorem dX8_faultOfDocking_61 : decode cX8_faultOfDocking 61 = .ok (.if_icmp .ne 7, 3) := by decide +kernel
theorem dX8_faultOfDocking_64 : decode cX8_faultOfDocking 64 = .ok (.iconst 1, 1) := by decide +kernel
theorem dX8_faultOfDocking_65 : decode cX8_faultOfDocking 65 = .ok (.goto 4, 3) := by decide +kernel
theorem dX8_faultOfDocking_68 : decode cX8_faultOfDocking 68 = .ok (.iconst 0, 1) := by decide +kernel
theorem dX8_faultOfDocking_69 : decode cX8_faultOfDocking 69 = .ok (.istore 5, 2) := by decide +kernel
theorem dX8_faultOfDocking_71 : decode cX8_faultOfDocking 71 = .ok (.iload 5, 2) := by decide +kernel
theorem dX8_faultOfDocking_73 : decode cX8_faultOfDocking 73 = .ok (.ifCond .eq 7, 3) := by decide +kernel
theorem dX8_faultOfDocking_76 : decode cX8_faultOfDocking 76 = .ok (.iconst 0, 1) := by decide +kernel
theorem dX8_faultOfDocking_77 : decode cX8_faultOfDocking 77 = .ok (.goto 4, 3) := by decide +kernel
theorem dX8_faultOfDocking_80 : decode cX8_faultOfDocking 80 = .ok (.iconst 3, 1) := by decide +kernel
theorem dX8_faultOfDocking_81 : decode cX8_faultOfDocking 81 = .ok (.ireturn, 1) := by decide +kernel
theorem hin_X8_faultOfDocking_X8 : ∀ w ∈ wsX80, w ∈ wsX8_faultOfDocking := by decide +kernel
theorem lk_X8_faultOfDocking_12 : Cond.fieldLink RX8 12 RX8 "now" "LDockTree$State;" ∈ wsX8_faultOfDocking := by decide +kernel
theorem hin_X8_faultOfDocking_X7 : ∀ w ∈ wsX70, w ∈ wsX8_faultOfDocking := by decide +kernel
theorem k_faultOfDocking (hG : GP G) (hD : DoS S a c h t p b q) (hW : Wo mu c h t p) {x y z : Int} (hx : -2147483648 ≤ x ∧ x ≤ 2147483647) (hy : -2147483648 ≤ y ∧ y ≤ 2147483647) (hz : -2147483648 ≤ z ∧ z ≤ 2147483647) : Ct G l yX8_faultOfDocking wsX8_faultOfDocking 2 0 0 [.ref a, .int (I32 x), .int (I32 y), .int (I32 z)] S n mu la (Dt (some (.int (I32 (fdF mu c x y z)))) S n mu la) := by
  have o8 := hD.1
  have o7 := hD.2.1.1
  have o4 := hD.2.1.2.2.1.1
  have b1 := pnF_b mu c x
  have b2 := pnF_b mu c y
  have b3 := stt_b (lay mu (c + 2)) y
  refine Ct.ofV (cc := cX8_faultOfDocking) (nL := 6) (ret := (some .int)) [some (.ref a), some (.int (I32 x)), some (.int (I32 y)), some (.int (I32 z)), none, none] hG (by decide) rfl (Nat.le_of_ble_eq_true rfl) rfl ?_
  rintro X rfl rfl C hcl hsl E
  refine V_aload_n C dX8_faultOfDocking_0 rfl ?_
  refine V_iload_n C dX8_faultOfDocking_1 rfl ?_
  refine V_callVD (nA := 1) C dX8_faultOfDocking_2 (k_isPane C.gp hD hW hx) gX8_faultOfDocking_X8_isPane rfl o8 rfl (by decide +kernel) rfl (by decide) (by decide) (Nat.le_of_ble_eq_true rfl) ⟨by omega, by omega⟩ rfl ?_
  refine V_if_eq C 16 dX8_faultOfDocking_5 (by decide) (by omega) (fun z5 => ?_) (fun z5 => ?_)
  · refine V_iconst C dX8_faultOfDocking_16 ?_
    refine V_ireturn C E dX8_faultOfDocking_17 (by omega) (by omega) ?_
    exact Dt_int (by unfold fdF; (repeat' split) <;> omega)
  · refine V_aload_n C dX8_faultOfDocking_8 rfl ?_
    refine V_iload_n C dX8_faultOfDocking_9 rfl ?_
    refine V_callVD (nA := 1) C dX8_faultOfDocking_10 (k_isPane C.gp hD hW hy) gX8_faultOfDocking_X8_isPane rfl o8 rfl (by decide +kernel) rfl (by decide) (by decide) (Nat.le_of_ble_eq_true rfl) ⟨by omega, by omega⟩ rfl ?_
    refine V_if_ne C 18 dX8_faultOfDocking_13 (by decide) (by omega) (fun z13 => ?_) (fun z13 => ?_)
    · refine V_iload_n C dX8_faultOfDocking_18 rfl ?_
      refine V_iload_n C dX8_faultOfDocking_19 rfl ?_
      refine V_icmp_eq C 32 dX8_faultOfDocking_20 (by decide) (by omega) (by omega) (fun z20 => ?_) (fun z20 => ?_)
      · refine V_iconst C dX8_faultOfDocking_32 ?_
        refine V_ireturn C E dX8_faultOfDocking_33 (by omega) (by omega) ?_
        exact Dt_int (by unfold fdF; (repeat' split) <;> omega)
      · refine V_iload_n C dX8_faultOfDocking_23 rfl ?_
        refine V_if_lt C 32 dX8_faultOfDocking_24 (by decide) (by omega) (fun z24 => ?_) (fun z24 => ?_)
        · refine V_iconst C dX8_faultOfDocking_32 ?_
          refine V_ireturn C E dX8_faultOfDocking_33 (by omega) (by omega) ?_
          exact Dt_int (by unfold fdF; (repeat' split) <;> omega)
        · refine V_iload_n C dX8_faultOfDocking_27 rfl ?_
          refine V_iconst C dX8_faultOfDocking_28 ?_
          refine V_icmp_le C 34 dX8_faultOfDocking_29 (by decide) (by omega) (by omega) (fun z29 => ?_) (fun z29 => ?_)
          · have h15 := pnF_1 (x := y) (by assumption) hW.2.2.1.2
            refine V_aload_n C dX8_faultOfDocking_34 rfl ?_
            refine V_getR C 0 dX8_faultOfDocking_35 o8 rfl hin_X8_faultOfDocking_X8 (by decide) lk_X8_faultOfDocking_12 rfl rfl ?_
            refine V_getNR C 4 (host := "DockTree") dX8_faultOfDocking_38 o7 rfl hin_X8_faultOfDocking_X7 (by decide) (by decide +kernel) rfl rfl ?_
            refine V_iload_n C dX8_faultOfDocking_41 rfl ?_
            refine V_callVD (nA := 1) C dX8_faultOfDocking_42 (w_stateOf C.gp hD.2.1.2.2.1 hW.2.1 (by omega)) gX8_faultOfDocking_X4_stateOf rfl o4 rfl (by decide +kernel) rfl (by decide) (by decide) (Nat.le_of_ble_eq_true rfl) ⟨by omega, by omega⟩ rfl ?_
            refine V_istore C dX8_faultOfDocking_45 rfl (by decide) ?_
            refine V_iload C dX8_faultOfDocking_47 rfl ?_
            refine V_iconst C dX8_faultOfDocking_49 ?_
            refine V_icmp_eq C 64 dX8_faultOfDocking_50 (by decide) (by omega) (by omega) (fun z50 => ?_) (fun z50 => ?_)
            · refine V_iconst C dX8_faultOfDocking_64 ?_
              refine V_goto C 69 dX8_faultOfDocking_65 (by decide) ?_
              refine V_istore C dX8_faultOfDocking_69 rfl (by decide) ?_
              refine V_iload C dX8_faultOfDocking_71 rfl ?_
              refine V_if_eq C 80 dX8_faultOfDocking_73 (by decide) (by omega) (fun z73 => ?_) (fun z73 => ?_)
              · refine V_iconst C dX8_faultOfDocking_80 ?_
                refine V_ireturn C E dX8_faultOfDocking_81 (by omega) (by omega) ?_
                exact Dt_int (by unfold fdF; (repeat' split) <;> omega)
              · refine V_iconst C dX8_faultOfDocking_76 ?_
                refine V_goto C 81 dX8_faultOfDocking_77 (by decide) ?_
                refine V_ireturn C E dX8_faultOfDocking_81 (by omega) (by omega) ?_
                exact Dt_int (by unfold fdF; (repeat' split) <;> omega)
            · refine V_iload C dX8_faultOfDocking_53 rfl ?_
              refine V_iconst C dX8_faultOfDocking_55 ?_
              refine V_icmp_ne C 68 dX8_faultOfDocking_56 (by decide) (by omega) (by omega) (fun z56 => ?_) (fun z56 => ?_)
              · refine V_iconst C dX8_faultOfDocking_68 ?_
                refine V_istore C dX8_faultOfDocking_69 rfl (by decide) ?_
                refine V_iload C dX8_faultOfDocking_71 rfl ?_
                refine V_if_eq C 80 dX8_faultOfDocking_73 (by decide) (by omega) (fun z73 => ?_) (fun z73 => ?_)
                · refine V_iconst C dX8_faultOfDocking_80 ?_
                  refine V_ireturn C E dX8_faultOfDocking_81 (by omega) (by omega) ?_
                  exact Dt_int (by unfold fdF; (repeat' split) <;> omega)
                · refine V_iconst C dX8_faultOfDocking_76 ?_
                  refine V_goto C 81 dX8_faultOfDocking_77 (by decide) ?_
                  refine V_ireturn C E dX8_faultOfDocking_81 (by omega) (by omega) ?_
                  exact Dt_int (by unfold fdF; (repeat' split) <;> omega)
              · refine V_iload_n C dX8_faultOfDocking_59 rfl ?_
                refine V_iconst C dX8_faultOfDocking_60 ?_
                refine V_icmp_ne C 68 dX8_faultOfDocking_61 (by decide) (by omega) (by omega) (fun z61 => ?_) (fun z61 => ?_)
                · refine V_iconst C dX8_faultOfDocking_68 ?_
                  refine V_istore C dX8_faultOfDocking_69 rfl (by decide) ?_
                  refine V_iload C dX8_faultOfDocking_71 rfl ?_
                  refine V_if_eq C 80 dX8_faultOfDocking_73 (by decide) (by omega) (fun z73 => ?_) (fun z73 => ?_)
                  · refine V_iconst C dX8_faultOfDocking_80 ?_
                    refine V_ireturn C E dX8_faultOfDocking_81 (by omega) (by omega) ?_
                    exact Dt_int (by unfold fdF; (repeat' split) <;> omega)
                  · refine V_iconst C dX8_faultOfDocking_76 ?_
                    refine V_goto C 81 dX8_faultOfDocking_77 (by decide) ?_
                    refine V_ireturn C E dX8_faultOfDocking_81 (by omega) (by omega) ?_
                    exact Dt_int (by unfold fdF; (repeat' split) <;> omega)
                · refine V_iconst C dX8_faultOfDocking_64 ?_
                  refine V_goto C 69 dX8_faultOfDocking_65 (by decide) ?_
                  refine V_istore C dX8_faultOfDocking_69 rfl (by decide) ?_
                  refine V_iload C dX8_faultOfDocking_71 rfl ?_
                  refine V_if_eq C 80 dX8_faultOfDocking_73 (by decide) (by omega) (fun z73 => ?_) (fun z73 => ?_)
                  · refine V_iconst C dX8_faultOfDocking_80 ?_
                    refine V_ireturn C E dX8_faultOfDocking_81 (by omega) (by omega) ?_
                    exact Dt_int (by unfold fdF; (repeat' split) <;> omega)
                  · refine V_iconst C dX8_faultOfDocking_76 ?_
                    refine V_goto C 81 dX8_faultOfDocking_77 (by decide) ?_
                    refine V_ireturn C E dX8_faultOfDocking_81 (by omega) (by omega) ?_
                    exact Dt_int (by unfold fdF; (repeat' split) <;> omega)
          · refine V_iconst C dX8_faultOfDocking_32 ?_
            refine V_ireturn C E dX8_faultOfDocking_33 (by omega) (by omega) ?_
            exact Dt_int (by unfold fdF; (repeat' split) <;> omega)
    · refine V_iconst C dX8_faultOfDocking_16 ?_
      refine V_ireturn C E dX8_faultOfDocking_17 (by omega) (by omega) ?_
      exact Dt_int (by unfold fdF; (repeat' split) <;> omega)
def fgF (mu : Mem) (c : Nat) (x z : Int) : Int := if pnF mu c x = 1 then frF z 0 3 else 1
set_option maxRecDepth 20000 in
theorem ggX8_faultOfEdge_X8_isPane : GoodIn wsX8_faultOfEdge wsX8_isPane := goodIn_r _ [5, 6, 10, 11, 12, 13, 14, 15, 16, 17, 18, 19, 20, 21, 22] (by decide +kernel) (by decide +kernel)
set_option maxRecDepth 20000 in
theorem gX8_faultOfEdge_X8_isPane : GoodIn wsX8_faultOfEdge (wsV RX8 79 RX8 yX8_isPane wsX8_isPane) := goodIn_app (goodIn_of _ (by decide +kernel)) ggX8_faultOfEdge_X8_isPane
set_option maxRecDepth 20000 in
theorem ggX8_faultOfEdge_X8_faultOfRange : GoodIn wsX8_faultOfEdge wsX8_faultOfRange := goodIn_r _ [9] (by decide +kernel) (by decide +kernel)
set_option maxRecDepth 20000 in
theorem gX8_faultOfEdge_X8_faultOfRange : GoodIn wsX8_faultOfEdge (va_wsS RX8 200 yX8_faultOfRange wsX8_faultOfRange) := goodIn_app (goodIn_of _ (by decide +kernel)) ggX8_faultOfEdge_X8_faultOfRange
theorem dX8_faultOfEdge_0 : decode cX8_faultOfEdge 0 = .ok (.aload_n 0, 1) := by decide +kernel
theorem dX8_faultOfEdge_1 : decode cX8_faultOfEdge 1 = .ok (.iload_n 1, 1) := by decide +kernel
theorem dX8_faultOfEdge_2 : decode cX8_faultOfEdge 2 = .ok (.invokevirtual 79, 3) := by decide +kernel
theorem dX8_faultOfEdge_5 : decode cX8_faultOfEdge 5 = .ok (.ifCond .eq 12, 3) := by decide +kernel
theorem dX8_faultOfEdge_8 : decode cX8_faultOfEdge 8 = .ok (.iload_n 2, 1) := by decide +kernel
theorem dX8_faultOfEdge_9 : decode cX8_faultOfEdge 9 = .ok (.iconst 0, 1) := by decide +kernel
theorem dX8_faultOfEdge_10 : decode cX8_faultOfEdge 10 = .ok (.iconst 3, 1) := by decide +kernel
theorem dX8_faultOfEdge_11 : decode cX8_faultOfEdge 11 = .ok (.invokestatic 200, 3) := by decide +kernel
theorem dX8_faultOfEdge_14 : decode cX8_faultOfEdge 14 = .ok (.goto 4, 3) := by decide +kernel
theorem dX8_faultOfEdge_17 : decode cX8_faultOfEdge 17 = .ok (.iconst 1, 1) := by decide +kernel
theorem dX8_faultOfEdge_18 : decode cX8_faultOfEdge 18 = .ok (.ireturn, 1) := by decide +kernel
theorem k_faultOfEdge (hG : GP G) (hD : DoS S a c h t p b q) (hW : Wo mu c h t p) {x z : Int} (hx : -2147483648 ≤ x ∧ x ≤ 2147483647) (hz : -2147483648 ≤ z ∧ z ≤ 2147483647) : Ct G l yX8_faultOfEdge wsX8_faultOfEdge 1 0 0 [.ref a, .int (I32 x), .int (I32 z)] S n mu la (Dt (some (.int (I32 (fgF mu c x z)))) S n mu la) := by
  have o8 := hD.1
  have b1 := pnF_b mu c x
  refine Ct.ofV (cc := cX8_faultOfEdge) (nL := 3) (ret := (some .int)) [some (.ref a), some (.int (I32 x)), some (.int (I32 z))] hG (by decide) rfl (Nat.le_of_ble_eq_true rfl) rfl ?_
  rintro X rfl rfl C hcl hsl E
  refine V_aload_n C dX8_faultOfEdge_0 rfl ?_
  refine V_iload_n C dX8_faultOfEdge_1 rfl ?_
  refine V_callVD (nA := 1) C dX8_faultOfEdge_2 (k_isPane C.gp hD hW hx) gX8_faultOfEdge_X8_isPane rfl o8 rfl (by decide +kernel) rfl (by decide) (by decide) (Nat.le_of_ble_eq_true rfl) ⟨by omega, by omega⟩ rfl ?_
  refine V_if_eq C 17 dX8_faultOfEdge_5 (by decide) (by omega) (fun z5 => ?_) (fun z5 => ?_)
  · refine V_iconst C dX8_faultOfEdge_17 ?_
    refine V_ireturn C E dX8_faultOfEdge_18 (by omega) (by omega) ?_
    exact Dt_int (by unfold fgF; (repeat' split) <;> omega)
  · refine V_iload_n C dX8_faultOfEdge_8 rfl ?_
    refine V_iconst C dX8_faultOfEdge_9 ?_
    refine V_iconst C dX8_faultOfEdge_10 ?_
    refine V_callSD (nA := 3) C dX8_faultOfEdge_11 (k_faultOfRange C.gp hz (by omega) (by omega)) gX8_faultOfEdge_X8_faultOfRange rfl (by decide +kernel) rfl (by decide) (by decide) (Nat.le_of_ble_eq_true rfl) ⟨by omega, by omega⟩ rfl ?_
    refine V_goto C 18 dX8_faultOfEdge_14 (by decide) ?_
    refine V_ireturn C E dX8_faultOfEdge_18 (by omega) (by omega) ?_
    exact Dt_int (by unfold fgF; (repeat' split) <;> omega)
def fflF (mu : Mem) (c : Nat) (x y z w v : Int) : Int := if pnF mu c x = 1 then (if (0 ≤ y ∧ y < 400 ∧ 0 ≤ z ∧ z < 400) ∧ 1 ≤ w ∧ w ≤ 400 ∧ 1 ≤ v ∧ v ≤ 400 then 0 else 2) else 1
set_option maxRecDepth 20000 in
theorem ggX8_faultOfFloating_X8_isPane : GoodIn wsX8_faultOfFloating wsX8_isPane := goodIn_r _ [5, 6, 7, 8, 9, 10, 11, 12, 13, 14, 15, 16, 17, 18, 19] (by decide +kernel) (by decide +kernel)
set_option maxRecDepth 20000 in
theorem gX8_faultOfFloating_X8_isPane : GoodIn wsX8_faultOfFloating (wsV RX8 79 RX8 yX8_isPane wsX8_isPane) := goodIn_app (goodIn_of _ (by decide +kernel)) ggX8_faultOfFloating_X8_isPane
theorem dX8_faultOfFloating_0 : decode cX8_faultOfFloating 0 = .ok (.aload_n 0, 1) := by decide +kernel
theorem dX8_faultOfFloating_1 : decode cX8_faultOfFloating 1 = .ok (.iload_n 1, 1) := by decide +kernel
theorem dX8_faultOfFloating_2 : decode cX8_faultOfFloating 2 = .ok (.invokevirtual 79, 3) := by decide +kernel
theorem dX8_faultOfFloating_5 : decode cX8_faultOfFloating 5 = .ok (.ifCond .ne 5, 3) := by decide +kernel
theorem dX8_faultOfFloating_8 : decode cX8_faultOfFloating 8 = .ok (.iconst 1, 1) := by decide +kernel
theorem dX8_faultOfFloating_9 : decode cX8_faultOfFloating 9 = .ok (.ireturn, 1) := by decide +kernel
theorem dX8_faultOfFloating_10 : decode cX8_faultOfFloating 10 = .ok (.iload_n 2, 1) := by decide +kernel
theorem dX8_faultOfFloating_11 : decode cX8_faultOfFloating 11 = .ok (.ifCond .lt 25, 3) := by decide +kernel
theorem dX8_faultOfFloating_14 : decode cX8_faultOfFloating 14 = .ok (.iload_n 2, 1) := by decide +kernel
theorem dX8_faultOfFloating_15 : decode cX8_faultOfFloating 15 = .ok (.sipush 400, 3) := by decide +kernel
theorem dX8_faultOfFloating_18 : decode cX8_faultOfFloating 18 = .ok (.if_icmp .ge 18, 3) := by decide +kernel
theorem dX8_faultOfFloating_21 : decode cX8_faultOfFloating 21 = .ok (.iload_n 3, 1) := by decide +kernel
theorem dX8_faultOfFloating_22 : decode cX8_faultOfFloating 22 = .ok (.ifCond .lt 14, 3) := by decide +kernel
theorem dX8_faultOfFloating_25 : decode cX8_faultOfFloating 25 = .ok (.iload_n 3, 1) := by decide +kernel
theorem dX8_faultOfFloating_26 : decode cX8_faultOfFloating 26 = .ok (.sipush 400, 3) := by decide +kernel
theorem dX8_faultOfFloating_29 : decode cX8_faultOfFloating 29 = .ok (.if_icmp .ge 7, 3) := by decide +kernel
theorem dX8_faultOfFloating_32 : decode cX8_faultOfFloating 32 = .ok (.iconst 1, 1) := by decide +kernel
theorem dX8_faultOfFloating_33 : decode cX8_faultOfFloating 33 = .ok (.goto 4, 3) := by decide +kernel
theorem dX8_faultOfFloating_36 : decode cX8_faultOfFloating 36 = .ok (.iconst 0, 1) := by decide +kernel
theorem dX8_faultOfFloating_37 : decode cX8_faultOfFloating 37 = .ok (.istore 6, 2) := by decide +kernel
theorem dX8_faultOfFloating_39 : decode cX8_faultOfFloating 39 = .ok (.iload 4, 2) := by decide +kernel
theorem dX8_faultOfFloating_41 : decode cX8_faultOfFloating 41 = .ok (.iconst 1, 1) := by decide +kernel
theorem dX8_faultOfFloating_42 : decode cX8_faultOfFloating 42 = .ok (.if_icmp .lt 29, 3) := by decide +kernel
theorem dX8_faultOfFloating_45 : decode cX8_faultOfFloating 45 = .ok (.iload 4, 2) := by decide +kernel
theorem dX8_faultOfFloating_47 : decode cX8_faultOfFloating 47 = .ok (.sipush 400, 3) := by decide +kernel
theorem dX8_faultOfFloating_50 : decode cX8_faultOfFloating 50 = .ok (.if_icmp .gt 21, 3) := by decide +kernel
theorem dX8_faultOfFloating_53 : decode cX8_faultOfFloating 53 = .ok (.iload 5, 2) := by decide +kernel
theorem dX8_faultOfFloating_55 : decode cX8_faultOfFloating 55 = .ok (.iconst 1, 1) := by decide +kernel
theorem dX8_faultOfFloating_56 : decode cX8_faultOfFloating 56 = .ok (.if_icmp .lt 15, 3) := by decide +kernel
theorem dX8_faultOfFloating_59 : decode cX8_faultOfFloating 59 = .ok (.iload 5, 2) := by decide +kernel
theorem dX8_faultOfFloating_61 : decode cX8_faultOfFloating 61 = .ok (.sipush 400, 3) := by decide +kernel
theorem dX8_faultOfFloating_64 : decode cX8_faultOfFloating 64 = .ok (.if_icmp .gt 7, 3) := by decide +kernel
theorem dX8_faultOfFloating_67 : decode cX8_faultOfFloating 67 = .ok (.iconst 1, 1) := by decide +kernel
theorem dX8_faultOfFloating_68 : decode cX8_faultOfFloating 68 = .ok (.goto 4, 3) := by decide +kernel
theorem dX8_faultOfFloating_71 : decode cX8_faultOfFloating 71 = .ok (.iconst 0, 1) := by decide +kernel
theorem dX8_faultOfFloating_72 : decode cX8_faultOfFloating 72 = .ok (.istore 7, 2) := by decide +kernel
theorem dX8_faultOfFloating_74 : decode cX8_faultOfFloating 74 = .ok (.iload 6, 2) := by decide +kernel
theorem dX8_faultOfFloating_76 : decode cX8_faultOfFloating 76 = .ok (.ifCond .eq 12, 3) := by decide +kernel
theorem dX8_faultOfFloating_79 : decode cX8_faultOfFloating 79 = .ok (.iload 7, 2) := by decide +kernel
theorem dX8_faultOfFloating_81 : decode cX8_faultOfFloating 81 = .ok (.ifCond .eq 7, 3) := by decide +kernel
theorem dX8_faultOfFloating_84 : decode cX8_faultOfFloating 84 = .ok (.iconst 0, 1) := by decide +kernel
theorem dX8_faultOfFloating_85 : decode cX8_faultOfFloating 85 = .ok (.goto 4, 3) := by decide +kernel
theorem dX8_faultOfFloating_88 : decode cX8_faultOfFloating 88 = .ok (.iconst 2, 1) := by decide +kernel
theorem dX8_faultOfFloating_89 : decode cX8_faultOfFloating 89 = .ok (.ireturn, 1) := by decide +kernel
theorem k_faultOfFloating (hG : GP G) (hD : DoS S a c h t p b q) (hW : Wo mu c h t p) {x y z w v : Int} (hx : -2147483648 ≤ x ∧ x ≤ 2147483647) (hy : -2147483648 ≤ y ∧ y ≤ 2147483647) (hz : -2147483648 ≤ z ∧ z ≤ 2147483647) (hw : -2147483648 ≤ w ∧ w ≤ 2147483647) (hv : -2147483648 ≤ v ∧ v ≤ 2147483647) : Ct G l yX8_faultOfFloating wsX8_faultOfFloating 1 0 0 [.ref a, .int (I32 x), .int (I32 y), .int (I32 z), .int (I32 w), .int (I32 v)] S n mu la (Dt (some (.int (I32 (fflF mu c x y z w v)))) S n mu la) := by
  have o8 := hD.1
  have b1 := pnF_b mu c x
  refine Ct.ofV (cc := cX8_faultOfFloating) (nL := 8) (ret := (some .int)) [some (.ref a), some (.int (I32 x)), some (.int (I32 y)), some (.int (I32 z)), some (.int (I32 w)), some (.int (I32 v)), none, none] hG (by decide) rfl (Nat.le_of_ble_eq_true rfl) rfl ?_
  rintro X rfl rfl C hcl hsl E
  refine V_aload_n C dX8_faultOfFloating_0 rfl ?_
  refine V_iload_n C dX8_faultOfFloating_1 rfl ?_
  refine V_callVD (nA := 1) C dX8_faultOfFloating_2 (k_isPane C.gp hD hW hx) gX8_faultOfFloating_X8_isPane rfl o8 rfl (by decide +kernel) rfl (by decide) (by decide) (Nat.le_of_ble_eq_true rfl) ⟨by omega, by omega⟩ rfl ?_
  refine V_if_ne C 10 dX8_faultOfFloating_5 (by decide) (by omega) (fun z5 => ?_) (fun z5 => ?_)
  · refine V_iload_n C dX8_faultOfFloating_10 rfl ?_
    refine V_if_lt C 36 dX8_faultOfFloating_11 (by decide) (by omega) (fun z11 => ?_) (fun z11 => ?_)
    · refine V_iconst C dX8_faultOfFloating_36 ?_
      refine V_istore C dX8_faultOfFloating_37 rfl (by decide) ?_
      refine V_iload C dX8_faultOfFloating_39 rfl ?_
      refine V_iconst C dX8_faultOfFloating_41 ?_
      refine V_icmp_lt C 71 dX8_faultOfFloating_42 (by decide) (by omega) (by omega) (fun z42 => ?_) (fun z42 => ?_)
      · refine V_iconst C dX8_faultOfFloating_71 ?_
        refine V_istore C dX8_faultOfFloating_72 rfl (by decide) ?_
        refine V_iload C dX8_faultOfFloating_74 rfl ?_
        refine V_if_eq C 88 dX8_faultOfFloating_76 (by decide) (by omega) (fun z76 => ?_) (fun z76 => ?_)
        · refine V_iconst C dX8_faultOfFloating_88 ?_
          refine V_ireturn C E dX8_faultOfFloating_89 (by omega) (by omega) ?_
          exact Dt_int (by unfold fflF; (repeat' split) <;> omega)
        · refine V_iload C dX8_faultOfFloating_79 rfl ?_
          refine V_if_eq C 88 dX8_faultOfFloating_81 (by decide) (by omega) (fun z81 => ?_) (fun z81 => ?_)
          · refine V_iconst C dX8_faultOfFloating_88 ?_
            refine V_ireturn C E dX8_faultOfFloating_89 (by omega) (by omega) ?_
            exact Dt_int (by unfold fflF; (repeat' split) <;> omega)
          · refine V_iconst C dX8_faultOfFloating_84 ?_
            refine V_goto C 89 dX8_faultOfFloating_85 (by decide) ?_
            refine V_ireturn C E dX8_faultOfFloating_89 (by omega) (by omega) ?_
            exact Dt_int (by unfold fflF; (repeat' split) <;> omega)
      · refine V_iload C dX8_faultOfFloating_45 rfl ?_
        refine V_sipush C dX8_faultOfFloating_47 (by decide +kernel) ?_
        refine V_icmp_gt C 71 dX8_faultOfFloating_50 (by decide) (by omega) (by omega) (fun z50 => ?_) (fun z50 => ?_)
        · refine V_iconst C dX8_faultOfFloating_71 ?_
          refine V_istore C dX8_faultOfFloating_72 rfl (by decide) ?_
          refine V_iload C dX8_faultOfFloating_74 rfl ?_
          refine V_if_eq C 88 dX8_faultOfFloating_76 (by decide) (by omega) (fun z76 => ?_) (fun z76 => ?_)
          · refine V_iconst C dX8_faultOfFloating_88 ?_
            refine V_ireturn C E dX8_faultOfFloating_89 (by omega) (by omega) ?_
            exact Dt_int (by unfold fflF; (repeat' split) <;> omega)
          · refine V_iload C dX8_faultOfFloating_79 rfl ?_
            refine V_if_eq C 88 dX8_faultOfFloating_81 (by decide) (by omega) (fun z81 => ?_) (fun z81 => ?_)
            · refine V_iconst C dX8_faultOfFloating_88 ?_
              refine V_ireturn C E dX8_faultOfFloating_89 (by omega) (by omega) ?_
              exact Dt_int (by unfold fflF; (repeat' split) <;> omega)
            · refine V_iconst C dX8_faultOfFloating_84 ?_
              refine V_goto C 89 dX8_faultOfFloating_85 (by decide) ?_
              refine V_ireturn C E dX8_faultOfFloating_89 (by omega) (by omega) ?_
              exact Dt_int (by unfold fflF; (repeat' split) <;> omega)
        · refine V_iload C dX8_faultOfFloating_53 rfl ?_
          refine V_iconst C dX8_faultOfFloating_55 ?_
          refine V_icmp_lt C 71 dX8_faultOfFloating_56 (by decide) (by omega) (by omega) (fun z56 => ?_) (fun z56 => ?_)
          · refine V_iconst C dX8_faultOfFloating_71 ?_
            refine V_istore C dX8_faultOfFloating_72 rfl (by decide) ?_
            refine V_iload C dX8_faultOfFloating_74 rfl ?_
            refine V_if_eq C 88 dX8_faultOfFloating_76 (by decide) (by omega) (fun z76 => ?_) (fun z76 => ?_)
            · refine V_iconst C dX8_faultOfFloating_88 ?_
              refine V_ireturn C E dX8_faultOfFloating_89 (by omega) (by omega) ?_
              exact Dt_int (by unfold fflF; (repeat' split) <;> omega)
            · refine V_iload C dX8_faultOfFloating_79 rfl ?_
              refine V_if_eq C 88 dX8_faultOfFloating_81 (by decide) (by omega) (fun z81 => ?_) (fun z81 => ?_)
              · refine V_iconst C dX8_faultOfFloating_88 ?_
                refine V_ireturn C E dX8_faultOfFloating_89 (by omega) (by omega) ?_
                exact Dt_int (by unfold fflF; (repeat' split) <;> omega)
              · refine V_iconst C dX8_faultOfFloating_84 ?_
                refine V_goto C 89 dX8_faultOfFloating_85 (by decide) ?_
                refine V_ireturn C E dX8_faultOfFloating_89 (by omega) (by omega) ?_
                exact Dt_int (by unfold fflF; (repeat' split) <;> omega)
          · refine V_iload C dX8_faultOfFloating_59 rfl ?_
            refine V_sipush C dX8_faultOfFloating_61 (by decide +kernel) ?_
            refine V_icmp_gt C 71 dX8_faultOfFloating_64 (by decide) (by omega) (by omega) (fun z64 => ?_) (fun z64 => ?_)
            · refine V_iconst C dX8_faultOfFloating_71 ?_
              refine V_istore C dX8_faultOfFloating_72 rfl (by decide) ?_
              refine V_iload C dX8_faultOfFloating_74 rfl ?_
              refine V_if_eq C 88 dX8_faultOfFloating_76 (by decide) (by omega) (fun z76 => ?_) (fun z76 => ?_)
              · refine V_iconst C dX8_faultOfFloating_88 ?_
                refine V_ireturn C E dX8_faultOfFloating_89 (by omega) (by omega) ?_
                exact Dt_int (by unfold fflF; (repeat' split) <;> omega)
              · refine V_iload C dX8_faultOfFloating_79 rfl ?_
                refine V_if_eq C 88 dX8_faultOfFloating_81 (by decide) (by omega) (fun z81 => ?_) (fun z81 => ?_)
                · refine V_iconst C dX8_faultOfFloating_88 ?_
                  refine V_ireturn C E dX8_faultOfFloating_89 (by omega) (by omega) ?_
                  exact Dt_int (by unfold fflF; (repeat' split) <;> omega)
                · refine V_iconst C dX8_faultOfFloating_84 ?_
                  refine V_goto C 89 dX8_faultOfFloating_85 (by decide) ?_
                  refine V_ireturn C E dX8_faultOfFloating_89 (by omega) (by omega) ?_
                  exact Dt_int (by unfold fflF; (repeat' split) <;> omega)
            · refine V_iconst C dX8_faultOfFloating_67 ?_
              refine V_goto C 72 dX8_faultOfFloating_68 (by decide) ?_
              refine V_istore C dX8_faultOfFloating_72 rfl (by decide) ?_
              refine V_iload C dX8_faultOfFloating_74 rfl ?_
              refine V_if_eq C 88 dX8_faultOfFloating_76 (by decide) (by omega) (fun z76 => ?_) (fun z76 => ?_)
              · refine V_iconst C dX8_faultOfFloating_88 ?_
                refine V_ireturn C E dX8_faultOfFloating_89 (by omega) (by omega) ?_
                exact Dt_int (by unfold fflF; (repeat' split) <;> omega)
              · refine V_iload C dX8_faultOfFloating_79 rfl ?_
                refine V_if_eq C 88 dX8_faultOfFloating_81 (by decide) (by omega) (fun z81 => ?_) (fun z81 => ?_)
                · refine V_iconst C dX8_faultOfFloating_88 ?_
                  refine V_ireturn C E dX8_faultOfFloating_89 (by omega) (by omega) ?_
                  exact Dt_int (by unfold fflF; (repeat' split) <;> omega)
                · refine V_iconst C dX8_faultOfFloating_84 ?_
                  refine V_goto C 89 dX8_faultOfFloating_85 (by decide) ?_
                  refine V_ireturn C E dX8_faultOfFloating_89 (by omega) (by omega) ?_
                  exact Dt_int (by unfold fflF; (repeat' split) <;> omega)
    · refine V_iload_n C dX8_faultOfFloating_14 rfl ?_
      refine V_sipush C dX8_faultOfFloating_15 (by decide +kernel) ?_
      refine V_icmp_ge C 36 dX8_faultOfFloating_18 (by decide) (by omega) (by omega) (fun z18 => ?_) (fun z18 => ?_)
      · refine V_iconst C dX8_faultOfFloating_36 ?_
        refine V_istore C dX8_faultOfFloating_37 rfl (by decide) ?_
        refine V_iload C dX8_faultOfFloating_39 rfl ?_
        refine V_iconst C dX8_faultOfFloating_41 ?_
        refine V_icmp_lt C 71 dX8_faultOfFloating_42 (by decide) (by omega) (by omega) (fun z42 => ?_) (fun z42 => ?_)
        · refine V_iconst C dX8_faultOfFloating_71 ?_
          refine V_istore C dX8_faultOfFloating_72 rfl (by decide) ?_
          refine V_iload C dX8_faultOfFloating_74 rfl ?_
          refine V_if_eq C 88 dX8_faultOfFloating_76 (by decide) (by omega) (fun z76 => ?_) (fun z76 => ?_)
          · refine V_iconst C dX8_faultOfFloating_88 ?_
            refine V_ireturn C E dX8_faultOfFloating_89 (by omega) (by omega) ?_
            exact Dt_int (by unfold fflF; (repeat' split) <;> omega)
          · refine V_iload C dX8_faultOfFloating_79 rfl ?_
            refine V_if_eq C 88 dX8_faultOfFloating_81 (by decide) (by omega) (fun z81 => ?_) (fun z81 => ?_)
            · refine V_iconst C dX8_faultOfFloating_88 ?_
              refine V_ireturn C E dX8_faultOfFloating_89 (by omega) (by omega) ?_
              exact Dt_int (by unfold fflF; (repeat' split) <;> omega)
            · refine V_iconst C dX8_faultOfFloating_84 ?_
              refine V_goto C 89 dX8_faultOfFloating_85 (by decide) ?_
              refine V_ireturn C E dX8_faultOfFloating_89 (by omega) (by omega) ?_
              exact Dt_int (by unfold fflF; (repeat' split) <;> omega)
        · refine V_iload C dX8_faultOfFloating_45 rfl ?_
          refine V_sipush C dX8_faultOfFloating_47 (by decide +kernel) ?_
          refine V_icmp_gt C 71 dX8_faultOfFloating_50 (by decide) (by omega) (by omega) (fun z50 => ?_) (fun z50 => ?_)
          · refine V_iconst C dX8_faultOfFloating_71 ?_
            refine V_istore C dX8_faultOfFloating_72 rfl (by decide) ?_
            refine V_iload C dX8_faultOfFloating_74 rfl ?_
            refine V_if_eq C 88 dX8_faultOfFloating_76 (by decide) (by omega) (fun z76 => ?_) (fun z76 => ?_)
            · refine V_iconst C dX8_faultOfFloating_88 ?_
              refine V_ireturn C E dX8_faultOfFloating_89 (by omega) (by omega) ?_
              exact Dt_int (by unfold fflF; (repeat' split) <;> omega)
            · refine V_iload C dX8_faultOfFloating_79 rfl ?_
              refine V_if_eq C 88 dX8_faultOfFloating_81 (by decide) (by omega) (fun z81 => ?_) (fun z81 => ?_)
              · refine V_iconst C dX8_faultOfFloating_88 ?_
                refine V_ireturn C E dX8_faultOfFloating_89 (by omega) (by omega) ?_
                exact Dt_int (by unfold fflF; (repeat' split) <;> omega)
              · refine V_iconst C dX8_faultOfFloating_84 ?_
                refine V_goto C 89 dX8_faultOfFloating_85 (by decide) ?_
                refine V_ireturn C E dX8_faultOfFloating_89 (by omega) (by omega) ?_
                exact Dt_int (by unfold fflF; (repeat' split) <;> omega)
          · refine V_iload C dX8_faultOfFloating_53 rfl ?_
            refine V_iconst C dX8_faultOfFloating_55 ?_
            refine V_icmp_lt C 71 dX8_faultOfFloating_56 (by decide) (by omega) (by omega) (fun z56 => ?_) (fun z56 => ?_)
            · refine V_iconst C dX8_faultOfFloating_71 ?_
              refine V_istore C dX8_faultOfFloating_72 rfl (by decide) ?_
              refine V_iload C dX8_faultOfFloating_74 rfl ?_
              refine V_if_eq C 88 dX8_faultOfFloating_76 (by decide) (by omega) (fun z76 => ?_) (fun z76 => ?_)
              · refine V_iconst C dX8_faultOfFloating_88 ?_
                refine V_ireturn C E dX8_faultOfFloating_89 (by omega) (by omega) ?_
                exact Dt_int (by unfold fflF; (repeat' split) <;> omega)
              · refine V_iload C dX8_faultOfFloating_79 rfl ?_
                refine V_if_eq C 88 dX8_faultOfFloating_81 (by decide) (by omega) (fun z81 => ?_) (fun z81 => ?_)
                · refine V_iconst C dX8_faultOfFloating_88 ?_
                  refine V_ireturn C E dX8_faultOfFloating_89 (by omega) (by omega) ?_
                  exact Dt_int (by unfold fflF; (repeat' split) <;> omega)
                · refine V_iconst C dX8_faultOfFloating_84 ?_
                  refine V_goto C 89 dX8_faultOfFloating_85 (by decide) ?_
                  refine V_ireturn C E dX8_faultOfFloating_89 (by omega) (by omega) ?_
                  exact Dt_int (by unfold fflF; (repeat' split) <;> omega)
            · refine V_iload C dX8_faultOfFloating_59 rfl ?_
              refine V_sipush C dX8_faultOfFloating_61 (by decide +kernel) ?_
              refine V_icmp_gt C 71 dX8_faultOfFloating_64 (by decide) (by omega) (by omega) (fun z64 => ?_) (fun z64 => ?_)
              · refine V_iconst C dX8_faultOfFloating_71 ?_
                refine V_istore C dX8_faultOfFloating_72 rfl (by decide) ?_
                refine V_iload C dX8_faultOfFloating_74 rfl ?_
                refine V_if_eq C 88 dX8_faultOfFloating_76 (by decide) (by omega) (fun z76 => ?_) (fun z76 => ?_)
                · refine V_iconst C dX8_faultOfFloating_88 ?_
                  refine V_ireturn C E dX8_faultOfFloating_89 (by omega) (by omega) ?_
                  exact Dt_int (by unfold fflF; (repeat' split) <;> omega)
                · refine V_iload C dX8_faultOfFloating_79 rfl ?_
                  refine V_if_eq C 88 dX8_faultOfFloating_81 (by decide) (by omega) (fun z81 => ?_) (fun z81 => ?_)
                  · refine V_iconst C dX8_faultOfFloating_88 ?_
                    refine V_ireturn C E dX8_faultOfFloating_89 (by omega) (by omega) ?_
                    exact Dt_int (by unfold fflF; (repeat' split) <;> omega)
                  · refine V_iconst C dX8_faultOfFloating_84 ?_
                    refine V_goto C 89 dX8_faultOfFloating_85 (by decide) ?_
                    refine V_ireturn C E dX8_faultOfFloating_89 (by omega) (by omega) ?_
                    exact Dt_int (by unfold fflF; (repeat' split) <;> omega)
              · refine V_iconst C dX8_faultOfFloating_67 ?_
                refine V_goto C 72 dX8_faultOfFloating_68 (by decide) ?_
                refine V_istore C dX8_faultOfFloating_72 rfl (by decide) ?_
                refine V_iload C dX8_faultOfFloating_74 rfl ?_
                refine V_if_eq C 88 dX8_faultOfFloating_76 (by decide) (by omega) (fun z76 => ?_) (fun z76 => ?_)
                · refine V_iconst C dX8_faultOfFloating_88 ?_
                  refine V_ireturn C E dX8_faultOfFloating_89 (by omega) (by omega) ?_
                  exact Dt_int (by unfold fflF; (repeat' split) <;> omega)
                · refine V_iload C dX8_faultOfFloating_79 rfl ?_
                  refine V_if_eq C 88 dX8_faultOfFloating_81 (by decide) (by omega) (fun z81 => ?_) (fun z81 => ?_)
                  · refine V_iconst C dX8_faultOfFloating_88 ?_
                    refine V_ireturn C E dX8_faultOfFloating_89 (by omega) (by omega) ?_
                    exact Dt_int (by unfold fflF; (repeat' split) <;> omega)
                  · refine V_iconst C dX8_faultOfFloating_84 ?_
                    refine V_goto C 89 dX8_faultOfFloating_85 (by decide) ?_
                    refine V_ireturn C E dX8_faultOfFloating_89 (by omega) (by omega) ?_
                    exact Dt_int (by unfold fflF; (repeat' split) <;> omega)
      · refine V_iload_n C dX8_faultOfFloating_21 rfl ?_
        refine V_if_lt C 36 dX8_faultOfFloating_22 (by decide) (by omega) (fun z22 => ?_) (fun z22 => ?_)
        · refine V_iconst C dX8_faultOfFloating_36 ?_
          refine V_istore C dX8_faultOfFloating_37 rfl (by decide) ?_
          refine V_iload C dX8_faultOfFloating_39 rfl ?_
          refine V_iconst C dX8_faultOfFloating_41 ?_
          refine V_icmp_lt C 71 dX8_faultOfFloating_42 (by decide) (by omega) (by omega) (fun z42 => ?_) (fun z42 => ?_)
          · refine V_iconst C dX8_faultOfFloating_71 ?_
            refine V_istore C dX8_faultOfFloating_72 rfl (by decide) ?_
            refine V_iload C dX8_faultOfFloating_74 rfl ?_
            refine V_if_eq C 88 dX8_faultOfFloating_76 (by decide) (by omega) (fun z76 => ?_) (fun z76 => ?_)
            · refine V_iconst C dX8_faultOfFloating_88 ?_
              refine V_ireturn C E dX8_faultOfFloating_89 (by omega) (by omega) ?_
              exact Dt_int (by unfold fflF; (repeat' split) <;> omega)
            · refine V_iload C dX8_faultOfFloating_79 rfl ?_
              refine V_if_eq C 88 dX8_faultOfFloating_81 (by decide) (by omega) (fun z81 => ?_) (fun z81 => ?_)
              · refine V_iconst C dX8_faultOfFloating_88 ?_
                refine V_ireturn C E dX8_faultOfFloating_89 (by omega) (by omega) ?_
                exact Dt_int (by unfold fflF; (repeat' split) <;> omega)
              · refine V_iconst C dX8_faultOfFloating_84 ?_
                refine V_goto C 89 dX8_faultOfFloating_85 (by decide) ?_
                refine V_ireturn C E dX8_faultOfFloating_89 (by omega) (by omega) ?_
                exact Dt_int (by unfold fflF; (repeat' split) <;> omega)
          · refine V_iload C dX8_faultOfFloating_45 rfl ?_
            refine V_sipush C dX8_faultOfFloating_47 (by decide +kernel) ?_
            refine V_icmp_gt C 71 dX8_faultOfFloating_50 (by decide) (by omega) (by omega) (fun z50 => ?_) (fun z50 => ?_)
            · refine V_iconst C dX8_faultOfFloating_71 ?_
              refine V_istore C dX8_faultOfFloating_72 rfl (by decide) ?_
              refine V_iload C dX8_faultOfFloating_74 rfl ?_
              refine V_if_eq C 88 dX8_faultOfFloating_76 (by decide) (by omega) (fun z76 => ?_) (fun z76 => ?_)
              · refine V_iconst C dX8_faultOfFloating_88 ?_
                refine V_ireturn C E dX8_faultOfFloating_89 (by omega) (by omega) ?_
                exact Dt_int (by unfold fflF; (repeat' split) <;> omega)
              · refine V_iload C dX8_faultOfFloating_79 rfl ?_
                refine V_if_eq C 88 dX8_faultOfFloating_81 (by decide) (by omega) (fun z81 => ?_) (fun z81 => ?_)
                · refine V_iconst C dX8_faultOfFloating_88 ?_
                  refine V_ireturn C E dX8_faultOfFloating_89 (by omega) (by omega) ?_
                  exact Dt_int (by unfold fflF; (repeat' split) <;> omega)
                · refine V_iconst C dX8_faultOfFloating_84 ?_
                  refine V_goto C 89 dX8_faultOfFloating_85 (by decide) ?_
                  refine V_ireturn C E dX8_faultOfFloating_89 (by omega) (by omega) ?_
                  exact Dt_int (by unfold fflF; (repeat' split) <;> omega)
            · refine V_iload C dX8_faultOfFloating_53 rfl ?_
              refine V_iconst C dX8_faultOfFloating_55 ?_
              refine V_icmp_lt C 71 dX8_faultOfFloating_56 (by decide) (by omega) (by omega) (fun z56 => ?_) (fun z56 => ?_)
              · refine V_iconst C dX8_faultOfFloating_71 ?_
                refine V_istore C dX8_faultOfFloating_72 rfl (by decide) ?_
                refine V_iload C dX8_faultOfFloating_74 rfl ?_
                refine V_if_eq C 88 dX8_faultOfFloating_76 (by decide) (by omega) (fun z76 => ?_) (fun z76 => ?_)
                · refine V_iconst C dX8_faultOfFloating_88 ?_
                  refine V_ireturn C E dX8_faultOfFloating_89 (by omega) (by omega) ?_
                  exact Dt_int (by unfold fflF; (repeat' split) <;> omega)
                · refine V_iload C dX8_faultOfFloating_79 rfl ?_
                  refine V_if_eq C 88 dX8_faultOfFloating_81 (by decide) (by omega) (fun z81 => ?_) (fun z81 => ?_)
                  · refine V_iconst C dX8_faultOfFloating_88 ?_
                    refine V_ireturn C E dX8_faultOfFloating_89 (by omega) (by omega) ?_
                    exact Dt_int (by unfold fflF; (repeat' split) <;> omega)
                  · refine V_iconst C dX8_faultOfFloating_84 ?_
                    refine V_goto C 89 dX8_faultOfFloating_85 (by decide) ?_
                    refine V_ireturn C E dX8_faultOfFloating_89 (by omega) (by omega) ?_
                    exact Dt_int (by unfold fflF; (repeat' split) <;> omega)
              · refine V_iload C dX8_faultOfFloating_59 rfl ?_
                refine V_sipush C dX8_faultOfFloating_61 (by decide +kernel) ?_
                refine V_icmp_gt C 71 dX8_faultOfFloating_64 (by decide) (by omega) (by omega) (fun z64 => ?_) (fun z64 => ?_)
                · refine V_iconst C dX8_faultOfFloating_71 ?_
                  refine V_istore C dX8_faultOfFloating_72 rfl (by decide) ?_
                  refine V_iload C dX8_faultOfFloating_74 rfl ?_
                  refine V_if_eq C 88 dX8_faultOfFloating_76 (by decide) (by omega) (fun z76 => ?_) (fun z76 => ?_)
                  · refine V_iconst C dX8_faultOfFloating_88 ?_
                    refine V_ireturn C E dX8_faultOfFloating_89 (by omega) (by omega) ?_
                    exact Dt_int (by unfold fflF; (repeat' split) <;> omega)
                  · refine V_iload C dX8_faultOfFloating_79 rfl ?_
                    refine V_if_eq C 88 dX8_faultOfFloating_81 (by decide) (by omega) (fun z81 => ?_) (fun z81 => ?_)
                    · refine V_iconst C dX8_faultOfFloating_88 ?_
                      refine V_ireturn C E dX8_faultOfFloating_89 (by omega) (by omega) ?_
                      exact Dt_int (by unfold fflF; (repeat' split) <;> omega)
                    · refine V_iconst C dX8_faultOfFloating_84 ?_
                      refine V_goto C 89 dX8_faultOfFloating_85 (by decide) ?_
                      refine V_ireturn C E dX8_faultOfFloating_89 (by omega) (by omega) ?_
                      exact Dt_int (by unfold fflF; (repeat' split) <;> omega)
                · refine V_iconst C dX8_faultOfFloating_67 ?_
                  refine V_goto C 72 dX8_faultOfFloating_68 (by decide) ?_
                  refine V_istore C dX8_faultOfFloating_72 rfl (by decide) ?_
                  refine V_iload C dX8_faultOfFloating_74 rfl ?_
                  refine V_if_eq C 88 dX8_faultOfFloating_76 (by decide) (by omega) (fun z76 => ?_) (fun z76 => ?_)
                  · refine V_iconst C dX8_faultOfFloating_88 ?_
                    refine V_ireturn C E dX8_faultOfFloating_89 (by omega) (by omega) ?_
                    exact Dt_int (by unfold fflF; (repeat' split) <;> omega)
                  · refine V_iload C dX8_faultOfFloating_79 rfl ?_
                    refine V_if_eq C 88 dX8_faultOfFloating_81 (by decide) (by omega) (fun z81 => ?_) (fun z81 => ?_)
                    · refine V_iconst C dX8_faultOfFloating_88 ?_
                      refine V_ireturn C E dX8_faultOfFloating_89 (by omega) (by omega) ?_
                      exact Dt_int (by unfold fflF; (repeat' split) <;> omega)
                    · refine V_iconst C dX8_faultOfFloating_84 ?_
                      refine V_goto C 89 dX8_faultOfFloating_85 (by decide) ?_
                      refine V_ireturn C E dX8_faultOfFloating_89 (by omega) (by omega) ?_
                      exact Dt_int (by unfold fflF; (repeat' split) <;> omega)
        · refine V_iload_n C dX8_faultOfFloating_25 rfl ?_
          refine V_sipush C dX8_faultOfFloating_26 (by decide +kernel) ?_
          refine V_icmp_ge C 36 dX8_faultOfFloating_29 (by decide) (by omega) (by omega) (fun z29 => ?_) (fun z29 => ?_)
          · refine V_iconst C dX8_faultOfFloating_36 ?_
            refine V_istore C dX8_faultOfFloating_37 rfl (by decide) ?_
            refine V_iload C dX8_faultOfFloating_39 rfl ?_
            refine V_iconst C dX8_faultOfFloating_41 ?_
            refine V_icmp_lt C 71 dX8_faultOfFloating_42 (by decide) (by omega) (by omega) (fun z42 => ?_) (fun z42 => ?_)
            · refine V_iconst C dX8_faultOfFloating_71 ?_
              refine V_istore C dX8_faultOfFloating_72 rfl (by decide) ?_
              refine V_iload C dX8_faultOfFloating_74 rfl ?_
              refine V_if_eq C 88 dX8_faultOfFloating_76 (by decide) (by omega) (fun z76 => ?_) (fun z76 => ?_)
              · refine V_iconst C dX8_faultOfFloating_88 ?_
                refine V_ireturn C E dX8_faultOfFloating_89 (by omega) (by omega) ?_
                exact Dt_int (by unfold fflF; (repeat' split) <;> omega)
              · refine V_iload C dX8_faultOfFloating_79 rfl ?_
                refine V_if_eq C 88 dX8_faultOfFloating_81 (by decide) (by omega) (fun z81 => ?_) (fun z81 => ?_)
                · refine V_iconst C dX8_faultOfFloating_88 ?_
                  refine V_ireturn C E dX8_faultOfFloating_89 (by omega) (by omega) ?_
                  exact Dt_int (by unfold fflF; (repeat' split) <;> omega)
                · refine V_iconst C dX8_faultOfFloating_84 ?_
                  refine V_goto C 89 dX8_faultOfFloating_85 (by decide) ?_
                  refine V_ireturn C E dX8_faultOfFloating_89 (by omega) (by omega) ?_
                  exact Dt_int (by unfold fflF; (repeat' split) <;> omega)
            · refine V_iload C dX8_faultOfFloating_45 rfl ?_
              refine V_sipush C dX8_faultOfFloating_47 (by decide +kernel) ?_
              refine V_icmp_gt C 71 dX8_faultOfFloating_50 (by decide) (by omega) (by omega) (fun z50 => ?_) (fun z50 => ?_)
              · refine V_iconst C dX8_faultOfFloating_71 ?_
                refine V_istore C dX8_faultOfFloating_72 rfl (by decide) ?_
                refine V_iload C dX8_faultOfFloating_74 rfl ?_
                refine V_if_eq C 88 dX8_faultOfFloating_76 (by decide) (by omega) (fun z76 => ?_) (fun z76 => ?_)
                · refine V_iconst C dX8_faultOfFloating_88 ?_
                  refine V_ireturn C E dX8_faultOfFloating_89 (by omega) (by omega) ?_
                  exact Dt_int (by unfold fflF; (repeat' split) <;> omega)
                · refine V_iload C dX8_faultOfFloating_79 rfl ?_
                  refine V_if_eq C 88 dX8_faultOfFloating_81 (by decide) (by omega) (fun z81 => ?_) (fun z81 => ?_)
                  · refine V_iconst C dX8_faultOfFloating_88 ?_
                    refine V_ireturn C E dX8_faultOfFloating_89 (by omega) (by omega) ?_
                    exact Dt_int (by unfold fflF; (repeat' split) <;> omega)
                  · refine V_iconst C dX8_faultOfFloating_84 ?_
                    refine V_goto C 89 dX8_faultOfFloating_85 (by decide) ?_
                    refine V_ireturn C E dX8_faultOfFloating_89 (by omega) (by omega) ?_
                    exact Dt_int (by unfold fflF; (repeat' split) <;> omega)
              · refine V_iload C dX8_faultOfFloating_53 rfl ?_
                refine V_iconst C dX8_faultOfFloating_55 ?_
                refine V_icmp_lt C 71 dX8_faultOfFloating_56 (by decide) (by omega) (by omega) (fun z56 => ?_) (fun z56 => ?_)
                · refine V_iconst C dX8_faultOfFloating_71 ?_
                  refine V_istore C dX8_faultOfFloating_72 rfl (by decide) ?_
                  refine V_iload C dX8_faultOfFloating_74 rfl ?_
                  refine V_if_eq C 88 dX8_faultOfFloating_76 (by decide) (by omega) (fun z76 => ?_) (fun z76 => ?_)
                  · refine V_iconst C dX8_faultOfFloating_88 ?_
                    refine V_ireturn C E dX8_faultOfFloating_89 (by omega) (by omega) ?_
                    exact Dt_int (by unfold fflF; (repeat' split) <;> omega)
                  · refine V_iload C dX8_faultOfFloating_79 rfl ?_
                    refine V_if_eq C 88 dX8_faultOfFloating_81 (by decide) (by omega) (fun z81 => ?_) (fun z81 => ?_)
                    · refine V_iconst C dX8_faultOfFloating_88 ?_
                      refine V_ireturn C E dX8_faultOfFloating_89 (by omega) (by omega) ?_
                      exact Dt_int (by unfold fflF; (repeat' split) <;> omega)
                    · refine V_iconst C dX8_faultOfFloating_84 ?_
                      refine V_goto C 89 dX8_faultOfFloating_85 (by decide) ?_
                      refine V_ireturn C E dX8_faultOfFloating_89 (by omega) (by omega) ?_
                      exact Dt_int (by unfold fflF; (repeat' split) <;> omega)
                · refine V_iload C dX8_faultOfFloating_59 rfl ?_
                  refine V_sipush C dX8_faultOfFloating_61 (by decide +kernel) ?_
                  refine V_icmp_gt C 71 dX8_faultOfFloating_64 (by decide) (by omega) (by omega) (fun z64 => ?_) (fun z64 => ?_)
                  · refine V_iconst C dX8_faultOfFloating_71 ?_
                    refine V_istore C dX8_faultOfFloating_72 rfl (by decide) ?_
                    refine V_iload C dX8_faultOfFloating_74 rfl ?_
                    refine V_if_eq C 88 dX8_faultOfFloating_76 (by decide) (by omega) (fun z76 => ?_) (fun z76 => ?_)
                    · refine V_iconst C dX8_faultOfFloating_88 ?_
                      refine V_ireturn C E dX8_faultOfFloating_89 (by omega) (by omega) ?_
                      exact Dt_int (by unfold fflF; (repeat' split) <;> omega)
                    · refine V_iload C dX8_faultOfFloating_79 rfl ?_
                      refine V_if_eq C 88 dX8_faultOfFloating_81 (by decide) (by omega) (fun z81 => ?_) (fun z81 => ?_)
                      · refine V_iconst C dX8_faultOfFloating_88 ?_
                        refine V_ireturn C E dX8_faultOfFloating_89 (by omega) (by omega) ?_
                        exact Dt_int (by unfold fflF; (repeat' split) <;> omega)
                      · refine V_iconst C dX8_faultOfFloating_84 ?_
                        refine V_goto C 89 dX8_faultOfFloating_85 (by decide) ?_
                        refine V_ireturn C E dX8_faultOfFloating_89 (by omega) (by omega) ?_
                        exact Dt_int (by unfold fflF; (repeat' split) <;> omega)
                  · refine V_iconst C dX8_faultOfFloating_67 ?_
                    refine V_goto C 72 dX8_faultOfFloating_68 (by decide) ?_
                    refine V_istore C dX8_faultOfFloating_72 rfl (by decide) ?_
                    refine V_iload C dX8_faultOfFloating_74 rfl ?_
                    refine V_if_eq C 88 dX8_faultOfFloating_76 (by decide) (by omega) (fun z76 => ?_) (fun z76 => ?_)
                    · refine V_iconst C dX8_faultOfFloating_88 ?_
                      refine V_ireturn C E dX8_faultOfFloating_89 (by omega) (by omega) ?_
                      exact Dt_int (by unfold fflF; (repeat' split) <;> omega)
                    · refine V_iload C dX8_faultOfFloating_79 rfl ?_
                      refine V_if_eq C 88 dX8_faultOfFloating_81 (by decide) (by omega) (fun z81 => ?_) (fun z81 => ?_)
                      · refine V_iconst C dX8_faultOfFloating_88 ?_
                        refine V_ireturn C E dX8_faultOfFloating_89 (by omega) (by omega) ?_
                        exact Dt_int (by unfold fflF; (repeat' split) <;> omega)
                      · refine V_iconst C dX8_faultOfFloating_84 ?_
                        refine V_goto C 89 dX8_faultOfFloating_85 (by decide) ?_
                        refine V_ireturn C E dX8_faultOfFloating_89 (by omega) (by omega) ?_
                        exact Dt_int (by unfold fflF; (repeat' split) <;> omega)
          · refine V_iconst C dX8_faultOfFloating_32 ?_
            refine V_goto C 37 dX8_faultOfFloating_33 (by decide) ?_
            refine V_istore C dX8_faultOfFloating_37 rfl (by decide) ?_
            refine V_iload C dX8_faultOfFloating_39 rfl ?_
            refine V_iconst C dX8_faultOfFloating_41 ?_
            refine V_icmp_lt C 71 dX8_faultOfFloating_42 (by decide) (by omega) (by omega) (fun z42 => ?_) (fun z42 => ?_)
            · refine V_iconst C dX8_faultOfFloating_71 ?_
              refine V_istore C dX8_faultOfFloating_72 rfl (by decide) ?_
              refine V_iload C dX8_faultOfFloating_74 rfl ?_
              refine V_if_eq C 88 dX8_faultOfFloating_76 (by decide) (by omega) (fun z76 => ?_) (fun z76 => ?_)
              · refine V_iconst C dX8_faultOfFloating_88 ?_
                refine V_ireturn C E dX8_faultOfFloating_89 (by omega) (by omega) ?_
                exact Dt_int (by unfold fflF; (repeat' split) <;> omega)
              · refine V_iload C dX8_faultOfFloating_79 rfl ?_
                refine V_if_eq C 88 dX8_faultOfFloating_81 (by decide) (by omega) (fun z81 => ?_) (fun z81 => ?_)
                · refine V_iconst C dX8_faultOfFloating_88 ?_
                  refine V_ireturn C E dX8_faultOfFloating_89 (by omega) (by omega) ?_
                  exact Dt_int (by unfold fflF; (repeat' split) <;> omega)
                · refine V_iconst C dX8_faultOfFloating_84 ?_
                  refine V_goto C 89 dX8_faultOfFloating_85 (by decide) ?_
                  refine V_ireturn C E dX8_faultOfFloating_89 (by omega) (by omega) ?_
                  exact Dt_int (by unfold fflF; (repeat' split) <;> omega)
            · refine V_iload C dX8_faultOfFloating_45 rfl ?_
              refine V_sipush C dX8_faultOfFloating_47 (by decide +kernel) ?_
              refine V_icmp_gt C 71 dX8_faultOfFloating_50 (by decide) (by omega) (by omega) (fun z50 => ?_) (fun z50 => ?_)
              · refine V_iconst C dX8_faultOfFloating_71 ?_
                refine V_istore C dX8_faultOfFloating_72 rfl (by decide) ?_
                refine V_iload C dX8_faultOfFloating_74 rfl ?_
                refine V_if_eq C 88 dX8_faultOfFloating_76 (by decide) (by omega) (fun z76 => ?_) (fun z76 => ?_)
                · refine V_iconst C dX8_faultOfFloating_88 ?_
                  refine V_ireturn C E dX8_faultOfFloating_89 (by omega) (by omega) ?_
                  exact Dt_int (by unfold fflF; (repeat' split) <;> omega)
                · refine V_iload C dX8_faultOfFloating_79 rfl ?_
                  refine V_if_eq C 88 dX8_faultOfFloating_81 (by decide) (by omega) (fun z81 => ?_) (fun z81 => ?_)
                  · refine V_iconst C dX8_faultOfFloating_88 ?_
                    refine V_ireturn C E dX8_faultOfFloating_89 (by omega) (by omega) ?_
                    exact Dt_int (by unfold fflF; (repeat' split) <;> omega)
                  · refine V_iconst C dX8_faultOfFloating_84 ?_
                    refine V_goto C 89 dX8_faultOfFloating_85 (by decide) ?_
                    refine V_ireturn C E dX8_faultOfFloating_89 (by omega) (by omega) ?_
                    exact Dt_int (by unfold fflF; (repeat' split) <;> omega)
              · refine V_iload C dX8_faultOfFloating_53 rfl ?_
                refine V_iconst C dX8_faultOfFloating_55 ?_
                refine V_icmp_lt C 71 dX8_faultOfFloating_56 (by decide) (by omega) (by omega) (fun z56 => ?_) (fun z56 => ?_)
                · refine V_iconst C dX8_faultOfFloating_71 ?_
                  refine V_istore C dX8_faultOfFloating_72 rfl (by decide) ?_
                  refine V_iload C dX8_faultOfFloating_74 rfl ?_
                  refine V_if_eq C 88 dX8_faultOfFloating_76 (by decide) (by omega) (fun z76 => ?_) (fun z76 => ?_)
                  · refine V_iconst C dX8_faultOfFloating_88 ?_
                    refine V_ireturn C E dX8_faultOfFloating_89 (by omega) (by omega) ?_
                    exact Dt_int (by unfold fflF; (repeat' split) <;> omega)
                  · refine V_iload C dX8_faultOfFloating_79 rfl ?_
                    refine V_if_eq C 88 dX8_faultOfFloating_81 (by decide) (by omega) (fun z81 => ?_) (fun z81 => ?_)
                    · refine V_iconst C dX8_faultOfFloating_88 ?_
                      refine V_ireturn C E dX8_faultOfFloating_89 (by omega) (by omega) ?_
                      exact Dt_int (by unfold fflF; (repeat' split) <;> omega)
                    · refine V_iconst C dX8_faultOfFloating_84 ?_
                      refine V_goto C 89 dX8_faultOfFloating_85 (by decide) ?_
                      refine V_ireturn C E dX8_faultOfFloating_89 (by omega) (by omega) ?_
                      exact Dt_int (by unfold fflF; (repeat' split) <;> omega)
                · refine V_iload C dX8_faultOfFloating_59 rfl ?_
                  refine V_sipush C dX8_faultOfFloating_61 (by decide +kernel) ?_
                  refine V_icmp_gt C 71 dX8_faultOfFloating_64 (by decide) (by omega) (by omega) (fun z64 => ?_) (fun z64 => ?_)
                  · refine V_iconst C dX8_faultOfFloating_71 ?_
                    refine V_istore C dX8_faultOfFloating_72 rfl (by decide) ?_
                    refine V_iload C dX8_faultOfFloating_74 rfl ?_
                    refine V_if_eq C 88 dX8_faultOfFloating_76 (by decide) (by omega) (fun z76 => ?_) (fun z76 => ?_)
                    · refine V_iconst C dX8_faultOfFloating_88 ?_
                      refine V_ireturn C E dX8_faultOfFloating_89 (by omega) (by omega) ?_
                      exact Dt_int (by unfold fflF; (repeat' split) <;> omega)
                    · refine V_iload C dX8_faultOfFloating_79 rfl ?_
                      refine V_if_eq C 88 dX8_faultOfFloating_81 (by decide) (by omega) (fun z81 => ?_) (fun z81 => ?_)
                      · refine V_iconst C dX8_faultOfFloating_88 ?_
                        refine V_ireturn C E dX8_faultOfFloating_89 (by omega) (by omega) ?_
                        exact Dt_int (by unfold fflF; (repeat' split) <;> omega)
                      · refine V_iconst C dX8_faultOfFloating_84 ?_
                        refine V_goto C 89 dX8_faultOfFloating_85 (by decide) ?_
                        refine V_ireturn C E dX8_faultOfFloating_89 (by omega) (by omega) ?_
                        exact Dt_int (by unfold fflF; (repeat' split) <;> omega)
                  · refine V_iconst C dX8_faultOfFloating_67 ?_
                    refine V_goto C 72 dX8_faultOfFloating_68 (by decide) ?_
                    refine V_istore C dX8_faultOfFloating_72 rfl (by decide) ?_
                    refine V_iload C dX8_faultOfFloating_74 rfl ?_
                    refine V_if_eq C 88 dX8_faultOfFloating_76 (by decide) (by omega) (fun z76 => ?_) (fun z76 => ?_)
                    · refine V_iconst C dX8_faultOfFloating_88 ?_
                      refine V_ireturn C E dX8_faultOfFloating_89 (by omega) (by omega) ?_
                      exact Dt_int (by unfold fflF; (repeat' split) <;> omega)
                    · refine V_iload C dX8_faultOfFloating_79 rfl ?_
                      refine V_if_eq C 88 dX8_faultOfFloating_81 (by decide) (by omega) (fun z81 => ?_) (fun z81 => ?_)
                      · refine V_iconst C dX8_faultOfFloating_88 ?_
                        refine V_ireturn C E dX8_faultOfFloating_89 (by omega) (by omega) ?_
                        exact Dt_int (by unfold fflF; (repeat' split) <;> omega)
                      · refine V_iconst C dX8_faultOfFloating_84 ?_
                        refine V_goto C 89 dX8_faultOfFloating_85 (by decide) ?_
                        refine V_ireturn C E dX8_faultOfFloating_89 (by omega) (by omega) ?_
                        exact Dt_int (by unfold fflF; (repeat' split) <;> omega)
  · refine V_iconst C dX8_faultOfFloating_8 ?_
    refine V_ireturn C E dX8_faultOfFloating_9 (by omega) (by omega) ?_
    exact Dt_int (by unfold fflF; (repeat' split) <;> omega)
def fshF (mu : Mem) (c : Nat) (x w : Int) : Int := if pnF mu c x = 1 then (if w < 1 ∨ 1000000 < w then 2 else if spF (gL (lay mu (c + 2)) 0 (gL (lay mu (c + 2)) 0 x)) = 0 then 3 else 0) else 1
set_option maxRecDepth 20000 in
theorem ggX8_faultOfShare_X8_isPane : GoodIn wsX8_faultOfShare wsX8_isPane := goodIn_r _ [7, 2, 19, 20, 21, 22, 23, 24, 25, 26, 27, 28, 29, 30, 31] (by decide +kernel) (by decide +kernel)
set_option maxRecDepth 20000 in
theorem gX8_faultOfShare_X8_isPane : GoodIn wsX8_faultOfShare (wsV RX8 79 RX8 yX8_isPane wsX8_isPane) := goodIn_app (goodIn_of _ (by decide +kernel)) ggX8_faultOfShare_X8_isPane
set_option maxRecDepth 20000 in
theorem ggX8_faultOfShare_X4_holderOf : GoodIn wsX8_faultOfShare wsX4_holderOf := goodIn_r _ [12, 13, 14, 6, 15, 32, 33, 34, 35, 36, 37, 38, 39] (by decide +kernel) (by decide +kernel)
set_option maxRecDepth 20000 in
theorem gX8_faultOfShare_X4_holderOf : GoodIn wsX8_faultOfShare (wsV RX8 103 RX4 yX4_holderOf wsX4_holderOf) := goodIn_app (goodIn_of _ (by decide +kernel)) ggX8_faultOfShare_X4_holderOf
set_option maxRecDepth 20000 in
theorem ggX8_faultOfShare_X8_isSplit : GoodIn wsX8_faultOfShare wsX8_isSplit := goodIn_r _ [18] (by decide +kernel) (by decide +kernel)
set_option maxRecDepth 20000 in
theorem gX8_faultOfShare_X8_isSplit : GoodIn wsX8_faultOfShare (va_wsS RX8 209 yX8_isSplit wsX8_isSplit) := goodIn_app (goodIn_of _ (by decide +kernel)) ggX8_faultOfShare_X8_isSplit
theorem dX8_faultOfShare_0 : decode cX8_faultOfShare 0 = .ok (.aload_n 0, 1) := by decide +kernel
theorem dX8_faultOfShare_1 : decode cX8_faultOfShare 1 = .ok (.iload_n 1, 1) := by decide +kernel
theorem dX8_faultOfShare_2 : decode cX8_faultOfShare 2 = .ok (.invokevirtual 79, 3) := by decide +kernel
theorem dX8_faultOfShare_5 : decode cX8_faultOfShare 5 = .ok (.ifCond .ne 5, 3) := by decide +kernel
theorem dX8_faultOfShare_8 : decode cX8_faultOfShare 8 = .ok (.iconst 1, 1) := by decide +kernel
theorem dX8_faultOfShare_9 : decode cX8_faultOfShare 9 = .ok (.ireturn, 1) := by decide +kernel
theorem dX8_faultOfShare_10 : decode cX8_faultOfShare 10 = .ok (.iload_n 2, 1) := by decide +kernel
theorem dX8_faultOfShare_11 : decode cX8_faultOfShare 11 = .ok (.iconst 1, 1) := by decide +kernel
theorem dX8_faultOfShare_12 : decode cX8_faultOfShare 12 = .ok (.if_icmp .lt 10, 3) := by decide +kernel
theorem dX8_faultOfShare_15 : decode cX8_faultOfShare 15 = .ok (.iload_n 2, 1) := by decide +kernel
theorem dX8_faultOfShare_16 : decode cX8_faultOfShare 16 = .ok (.ldc_w 373, 3) := by decide +kernel
theorem dX8_faultOfShare_19 : decode cX8_faultOfShare 19 = .ok (.if_icmp .le 5, 3) := by decide +kernel
theorem dX8_faultOfShare_22 : decode cX8_faultOfShare 22 = .ok (.iconst 2, 1) := by decide +kernel
theorem dX8_faultOfShare_23 : decode cX8_faultOfShare 23 = .ok (.ireturn, 1) := by decide +kernel
theorem dX8_faultOfShare_24 : decode cX8_faultOfShare 24 = .ok (.aload_n 0, 1) := by decide +kernel
theorem dX8_faultOfShare_25 : decode cX8_faultOfShare 25 = .ok (.getfield 12, 3) := by decide +kernel
theorem dX8_faultOfShare_28 : decode cX8_faultOfShare 28 = .ok (.getfield 97, 3) := by decide +kernel
theorem dX8_faultOfShare_31 : decode cX8_faultOfShare 31 = .ok (.aload_n 0, 1) := by decide +kernel
theorem dX8_faultOfShare_32 : decode cX8_faultOfShare 32 = .ok (.getfield 12, 3) := by decide +kernel
theorem dX8_faultOfShare_35 : decode cX8_faultOfShare 35 = .ok (.getfield 97, 3) := by decide +kernel
theorem dX8_faultOfShare_38 : decode cX8_faultOfShare 38 = .ok (.iload_n 1, 1) := by decide +kernel
theorem dX8_faultOfShare_39 : decode cX8_faultOfShare 39 = .ok (.invokevirtual 103, 3) := by decide +kernel
theorem dX8_faultOfShare_42 : decode cX8_faultOfShare 42 = .ok (.invokevirtual 103, 3) := by decide +kernel
theorem dX8_faultOfShare_45 : decode cX8_faultOfShare 45 = .ok (.invokestatic 209, 3) := by decide +kernel
theorem dX8_faultOfShare_48 : decode cX8_faultOfShare 48 = .ok (.ifCond .eq 7, 3) := by decide +kernel
theorem dX8_faultOfShare_51 : decode cX8_faultOfShare 51 = .ok (.iconst 0, 1) := by decide +kernel
theorem dX8_faultOfShare_52 : decode cX8_faultOfShare 52 = .ok (.goto 4, 3) := by decide +kernel
theorem dX8_faultOfShare_55 : decode cX8_faultOfShare 55 = .ok (.iconst 3, 1) := by decide +kernel
theorem dX8_faultOfShare_56 : decode cX8_faultOfShare 56 = .ok (.ireturn, 1) := by decide +kernel
theorem hin_X8_faultOfShare_X8 : ∀ w ∈ wsX80, w ∈ wsX8_faultOfShare := by decide +kernel
theorem lk_X8_faultOfShare_12 : Cond.fieldLink RX8 12 RX8 "now" "LDockTree$State;" ∈ wsX8_faultOfShare := by decide +kernel
theorem hin_X8_faultOfShare_X7 : ∀ w ∈ wsX70, w ∈ wsX8_faultOfShare := by decide +kernel
theorem k_faultOfShare (hG : GP G) (hD : DoS S a c h t p b q) (hW : Wo mu c h t p) {x w : Int} (hx : -2147483648 ≤ x ∧ x ≤ 2147483647) (hw : -2147483648 ≤ w ∧ w ≤ 2147483647) : Ct G l yX8_faultOfShare wsX8_faultOfShare 2 0 0 [.ref a, .int (I32 x), .int (I32 w)] S n mu la (Dt (some (.int (I32 (fshF mu c x w)))) S n mu la) := by
  have o8 := hD.1
  have o7 := hD.2.1.1
  have o4 := hD.2.1.2.2.1.1
  have b1 := pnF_b mu c x
  have b2 := spF_b (gL (lay mu (c + 2)) 0 (gL (lay mu (c + 2)) 0 x))
  have b3 := gL_bd hW.2.1 (by omega) 0 (gL (lay mu (c + 2)) 0 x)
  refine Ct.ofV (cc := cX8_faultOfShare) (nL := 3) (ret := (some .int)) [some (.ref a), some (.int (I32 x)), some (.int (I32 w))] hG (by decide) rfl (Nat.le_of_ble_eq_true rfl) rfl ?_
  rintro X rfl rfl C hcl hsl E
  refine V_aload_n C dX8_faultOfShare_0 rfl ?_
  refine V_iload_n C dX8_faultOfShare_1 rfl ?_
  refine V_callVD (nA := 1) C dX8_faultOfShare_2 (k_isPane C.gp hD hW hx) gX8_faultOfShare_X8_isPane rfl o8 rfl (by decide +kernel) rfl (by decide) (by decide) (Nat.le_of_ble_eq_true rfl) ⟨by omega, by omega⟩ rfl ?_
  refine V_if_ne C 10 dX8_faultOfShare_5 (by decide) (by omega) (fun z5 => ?_) (fun z5 => ?_)
  · refine V_iload_n C dX8_faultOfShare_10 rfl ?_
    refine V_iconst C dX8_faultOfShare_11 ?_
    refine V_icmp_lt C 22 dX8_faultOfShare_12 (by decide) (by omega) (by omega) (fun z12 => ?_) (fun z12 => ?_)
    · refine V_iconst C dX8_faultOfShare_22 ?_
      refine V_ireturn C E dX8_faultOfShare_23 (by omega) (by omega) ?_
      exact Dt_int (by unfold fshF; (repeat' split) <;> omega)
    · refine V_iload_n C dX8_faultOfShare_15 rfl ?_
      refine V_ldcwI C (v := 1000000) dX8_faultOfShare_16 (by decide +kernel) ?_
      refine V_icmp_le C 24 dX8_faultOfShare_19 (by decide) (by omega) (by omega) (fun z19 => ?_) (fun z19 => ?_)
      · refine V_aload_n C dX8_faultOfShare_24 rfl ?_
        refine V_getR C 0 dX8_faultOfShare_25 o8 rfl hin_X8_faultOfShare_X8 (by decide) lk_X8_faultOfShare_12 rfl rfl ?_
        refine V_getNR C 4 (host := "DockTree") dX8_faultOfShare_28 o7 rfl hin_X8_faultOfShare_X7 (by decide) (by decide +kernel) rfl rfl ?_
        refine V_aload_n C dX8_faultOfShare_31 rfl ?_
        refine V_getR C 0 dX8_faultOfShare_32 o8 rfl hin_X8_faultOfShare_X8 (by decide) lk_X8_faultOfShare_12 rfl rfl ?_
        refine V_getNR C 4 (host := "DockTree") dX8_faultOfShare_35 o7 rfl hin_X8_faultOfShare_X7 (by decide) (by decide +kernel) rfl rfl ?_
        refine V_iload_n C dX8_faultOfShare_38 rfl ?_
        refine V_callVD (nA := 1) C dX8_faultOfShare_39 (w_holderOf C.gp hD.2.1.2.2.1) gX8_faultOfShare_X4_holderOf rfl o4 rfl (by decide +kernel) rfl (by decide) (by decide) (Nat.le_of_ble_eq_true rfl) ⟨by omega, by omega⟩ rfl ?_
        refine V_callVD (nA := 1) C dX8_faultOfShare_42 (w_holderOf C.gp hD.2.1.2.2.1) gX8_faultOfShare_X4_holderOf rfl o4 rfl (by decide +kernel) rfl (by decide) (by decide) (Nat.le_of_ble_eq_true rfl) ⟨by omega, by omega⟩ rfl ?_
        refine V_callSD (nA := 1) C dX8_faultOfShare_45 (c_isSplit C.gp (by omega)) gX8_faultOfShare_X8_isSplit rfl (by decide +kernel) rfl (by decide) (by decide) (Nat.le_of_ble_eq_true rfl) ⟨by omega, by omega⟩ rfl ?_
        refine V_if_eq C 55 dX8_faultOfShare_48 (by decide) (by omega) (fun z48 => ?_) (fun z48 => ?_)
        · refine V_iconst C dX8_faultOfShare_55 ?_
          refine V_ireturn C E dX8_faultOfShare_56 (by omega) (by omega) ?_
          exact Dt_int (by unfold fshF; (repeat' split) <;> omega)
        · refine V_iconst C dX8_faultOfShare_51 ?_
          refine V_goto C 56 dX8_faultOfShare_52 (by decide) ?_
          refine V_ireturn C E dX8_faultOfShare_56 (by omega) (by omega) ?_
          exact Dt_int (by unfold fshF; (repeat' split) <;> omega)
      · refine V_iconst C dX8_faultOfShare_22 ?_
        refine V_ireturn C E dX8_faultOfShare_23 (by omega) (by omega) ?_
        exact Dt_int (by unfold fshF; (repeat' split) <;> omega)
  · refine V_iconst C dX8_faultOfShare_8 ?_
    refine V_ireturn C E dX8_faultOfShare_9 (by omega) (by omega) ?_
    exact Dt_int (by unfold fshF; (repeat' split) <;> omega)
end DK
