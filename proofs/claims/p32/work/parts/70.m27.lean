/-! the shares; a split of the class shares and places -/
theorem frS9_uni {m : Nat} {a : Int} {le wt : Int → Int} {N M : Nat} (h1 : nwS m a le wt (frS9 m a le wt N) = 0) (h2 : ∀ i : Nat, i < N → nwS m a le wt (frS9 m a le wt i) ≠ 0) (h3 : nwS m a le wt (frS9 m a le wt M) = 0) (h4 : ∀ i : Nat, i < M → nwS m a le wt (frS9 m a le wt i) ≠ 0) : N = M := by
  rcases Nat.lt_trichotomy N M with h | h | h
  · exact absurd h1 (h4 N h)
  · exact h
  · exact absurd h3 (h2 M h)
noncomputable def shr (m : Nat) (a : Int) (le wt : Int → Int) (k : Int) : Int := by
  classical
  exact if h : ∃ N : Nat, N ≤ m ∧ nwS m a le wt (frS9 m a le wt N) = 0 ∧ ∀ i : Nat, i < N → nwS m a le wt (frS9 m a le wt i) ≠ 0 then (if a ≤ smG le m then tsS m a le k else shS m a le wt (frS9 m a le wt h.choose) k) else 0
theorem shr_e {m : Nat} {a : Int} {le wt : Int → Int} {N : Nat} (hN : N ≤ m) (h1 : nwS m a le wt (frS9 m a le wt N) = 0) (h2 : ∀ i : Nat, i < N → nwS m a le wt (frS9 m a le wt i) ≠ 0) (k : Int) : shr m a le wt k = if a ≤ smG le m then tsS m a le k else shS m a le wt (frS9 m a le wt N) k := by
  classical
  have ex : ∃ N : Nat, N ≤ m ∧ nwS m a le wt (frS9 m a le wt N) = 0 ∧ ∀ i : Nat, i < N → nwS m a le wt (frS9 m a le wt i) ≠ 0 := ⟨N, hN, h1, h2⟩
  have e := frS9_uni ex.choose_spec.2.1 ex.choose_spec.2.2 h1 h2
  unfold shr
  rw [dif_pos ex, e]
theorem hoL_sum (fr : Int → Int) {lf : Int} (h : 0 ≤ lf) : ∀ j : Nat, smG (bnS fr lf) j = lf - hoL fr lf j ∧ 0 ≤ hoL fr lf j
  | 0 => by show (0 : Int) = lf - lf ∧ 0 ≤ lf; omega
  | j + 1 => by
    obtain ⟨a, b⟩ := hoL_sum fr h j
    have e : smG (bnS fr lf) (j + 1) = smG (bnS fr lf) j + (if 0 < hoL fr lf j ∧ fr j = 1 then 1 else 0) := rfl
    have eh : hoL fr lf (j + 1) = if 0 < hoL fr lf j ∧ fr j = 1 then hoL fr lf j - 1 else hoL fr lf j := rfl
    rw [e, a, eh]
    split <;> omega
theorem lfS_0 {m : Nat} {a : Int} {le wt fr : Int → Int} (h : ShOk m a le wt) (hn : smG le m < a) : 0 ≤ lfS m a le wt fr := by
  have rb := rmS_b h fr
  have wb := wgS_b h fr
  have mu1 : ∀ (c : Int) (f : Int → Int) (j : Nat), smG (fun k => c * f k) j = c * smG f j := by
    intro c f j
    induction j with
    | zero => show (0 : Int) = c * 0; omega
    | succ j ih => unfold smG; rw [ih, Int.mul_add]
  unfold lfS
  by_cases z : wgS m wt fr = 0
  · rw [smG_zero m (fun k k1 k2 => by
      show (if fr k = 1 then paS m a le wt fr k else 0) = 0
      split
      · rename_i y; have := wb.2.2 k k1 k2 y; omega
      · rfl)]
    omega
  · have e : smG (fun k => wgS m wt fr * (if fr k = 1 then paS m a le wt fr k else 0)) m ≤ smG (fun k => rmS m a le fr * (if fr k = 1 then wt k else 0)) m := smG_mono m (fun k k1 k2 => by
      show wgS m wt fr * (if fr k = 1 then paS m a le wt fr k else 0) ≤ rmS m a le fr * (if fr k = 1 then wt k else 0)
      by_cases y : fr k = 1
      · rw [if_pos y, if_pos y]
        have d0 := Int.emod_def (rmS m a le fr * wt k) (wgS m wt fr)
        have d1 := Int.emod_nonneg (rmS m a le fr * wt k) z
        unfold paS
        omega
      · rw [if_neg y, if_neg y]; omega)
    rw [mu1, mu1] at e
    have ew : smG (fun k => if fr k = 1 then wt k else 0) m = wgS m wt fr := rfl
    rw [ew, Int.mul_comm (rmS m a le fr)] at e
    have := Int.le_of_mul_le_mul_left e (by omega)
    omega
/-- no share is less than nothing, and together they are no more than all -/
theorem shr_b {m : Nat} {a : Int} {le wt : Int → Int} (h : ShOk m a le wt) (hm : 0 < m) : (∀ k : Int, 0 ≤ k → k < m → 0 ≤ shr m a le wt k) ∧ smG (shr m a le wt) m ≤ a := by
  obtain ⟨N, hN, hz, hnz⟩ := frS9_end h
  have hab := h.2.1
  have sl := sle_b h m (Nat.le_refl _)
  have s1 := sl.2.2 hm
  have se : ∀ k, shr m a le wt k = if a ≤ smG le m then tsS m a le k else shS m a le wt (frS9 m a le wt N) k := shr_e hN hz hnz
  by_cases ht : a ≤ smG le m
  · have se' : ∀ k, shr m a le wt k = tsS m a le k := fun k => by rw [se, if_pos ht]
    have pb : ∀ k : Int, 0 ≤ k → k < m → 0 ≤ a * le k / smG le m := fun k k1 k2 => Int.ediv_nonneg (Int.mul_nonneg hab.1 (by have := (h.2.2 k k1 k2).1; omega)) (by omega)
    refine ⟨fun k k1 k2 => ?_, ?_⟩
    · rw [se']
      have := pb k k1 k2
      unfold tsS
      split <;> omega
    · rw [smG_ext m (fun k _ _ => se' k)]
      unfold tsS
      rw [smG_add]
      have e : ∀ (lf : Int) (j : Nat), smG (fun k => if k < lf then (1 : Int) else 0) j ≤ max lf 0 := by
        intro lf j
        induction j with
        | zero => show (0 : Int) ≤ max lf 0; omega
        | succ j ih =>
          have e2 : ∀ j : Nat, smG (fun k => if k < lf then (1 : Int) else 0) j ≤ j := fun j => by
            have := smG_le (fun k => if k < lf then (1 : Int) else 0) 1 j (fun o _ _ => by show (if o < lf then (1 : Int) else 0) ≤ 1; split <;> omega)
            omega
          have := e2 j
          show smG (fun k => if k < lf then (1 : Int) else 0) j + (if (j : Int) < lf then 1 else 0) ≤ max lf 0
          split <;> omega
      have t := e (tlS m a le) m
      have tl0 : 0 ≤ tlS m a le := by
        have mu1 : ∀ (c : Int) (f : Int → Int) (j : Nat), smG (fun k => c * f k) j = c * smG f j := by
          intro c f j
          induction j with
          | zero => show (0 : Int) = c * 0; omega
          | succ j ih => unfold smG; rw [ih, Int.mul_add]
        have e1 : smG (fun k => smG le m * (a * le k / smG le m)) m ≤ smG (fun k => a * le k) m := smG_mono m (fun k k1 k2 => by
          have d0 := Int.emod_def (a * le k) (smG le m)
          have d1 := Int.emod_nonneg (a * le k) (show smG le m ≠ 0 by omega)
          show smG le m * (a * le k / smG le m) ≤ a * le k
          omega)
        rw [mu1, mu1, Int.mul_comm a] at e1
        have := Int.le_of_mul_le_mul_left e1 (by omega)
        unfold tlS
        omega
      have et : tlS m a le = a - smG (fun k => a * le k / smG le m) m := rfl
      omega
  · have hn : smG le m < a := by omega
    have se' : ∀ k, shr m a le wt k = shS m a le wt (frS9 m a le wt N) k := fun k => by rw [se, if_neg ht]
    have l0 := lfS_0 (fr := frS9 m a le wt N) h hn
    refine ⟨fun k k1 k2 => ?_, ?_⟩
    · rw [se']
      have l := (h.2.2 k k1 k2).1
      unfold shS baS bnS
      by_cases y : frS9 m a le wt N k = 1
      · have := (paS_le h hn ⟨k1, k2⟩ y).1
        rw [if_pos y]; split <;> omega
      · rw [if_neg y]; split <;> omega
    · rw [smG_ext m (fun k _ _ => se' k)]
      unfold shS
      rw [smG_add]
      have ho := hoL_sum (frS9 m a le wt N) l0 m
      have hb : smG (baS m a le wt (frS9 m a le wt N)) m = smG (fun k => (if frS9 m a le wt N k = 1 then 0 else le k) + (if frS9 m a le wt N k = 1 then paS m a le wt (frS9 m a le wt N) k else 0)) m := smG_ext m (fun k _ _ => by unfold baS; split <;> omega)
      rw [smG_add] at hb
      have ho1 : smG (fun k => bnS (frS9 m a le wt N) (lfS m a le wt (frS9 m a le wt N)) k) m = smG (bnS (frS9 m a le wt N) (lfS m a le wt (frS9 m a le wt N))) m := rfl
      have hb1 : smG (fun k => baS m a le wt (frS9 m a le wt N) k) m = smG (baS m a le wt (frS9 m a le wt N)) m := rfl
      have el : lfS m a le wt (frS9 m a le wt N) = rmS m a le (frS9 m a le wt N) - smG (fun k => if frS9 m a le wt N k = 1 then paS m a le wt (frS9 m a le wt N) k else 0) m := rfl
      have er : rmS m a le (frS9 m a le wt N) = a - smG (fun k => if frS9 m a le wt N k = 1 then 0 else le k) m := rfl
      rw [ho1, hb1]
      omega
/-- the cells that a split shares -/
def cel (L : Mem) (sz : Int) (x : Int) : Int := max 0 (sz - (L 2 x - 1))
/-- the class shares the cells of a split -/
theorem scF_e {P L : Mem} {x : Int} (W : Wf L (-1)) (F : Fu L) (hM : MoT P L) (hx : InT L x) (z : isZ x) (hsz : 0 ≤ P 6 (2 * x + L 5 (x - 32)) ∧ P 6 (2 * x + L 5 (x - 32)) ≤ 1000) (h11 : 0 ≤ P 0 11 ∧ P 0 11 ≤ 1000)
    (hS : ShOk (L 2 x).toNat (cel L (P 6 (2 * x + L 5 (x - 32))) x) (fun k => VC P (mbrF L x k) (L 5 (x - 32))) (fun k => L 3 (mbrF L x k))) :
    (∀ k : Int, 0 ≤ k → k < L 2 x → scF P L x 12 k = shr (L 2 x).toNat (cel L (P 6 (2 * x + L 5 (x - 32))) x) (fun k => VC P (mbrF L x k) (L 5 (x - 32))) (fun k => L 3 (mbrF L x k)) k) ∧
      (∀ i : Int, scF P L x 8 i = if i = x then (if cel L (P 6 (2 * x + L 5 (x - 32))) x ≤ smG (fun k => VC P (mbrF L x k) (L 5 (x - 32))) (L 2 x).toNat then 1 else 0) else P 8 i) ∧
      scF P L x 0 11 = P 0 11 + (if cel L (P 6 (2 * x + L 5 (x - 32))) x ≤ smG (fun k => VC P (mbrF L x k) (L 5 (x - 32))) (L 2 x).toNat then 1 else 0) ∧
      (∀ (k : Nat) (i : Int), k ≠ 8 → k ≠ 9 → k ≠ 10 → k ≠ 11 → k ≠ 12 → k ≠ 13 → (k = 0 → i ≠ 11) → scF P L x k i = P k i) := by
  have b := hx.rg
  have z1 := z.1
  have z2 := z.2
  have axs := W.axs x z1 z2
  have nn := W.mb.nng x (by omega) (by omega)
  have c16 := W.cnt16 F (h := x) ⟨by omega, by omega⟩
  have x0 : L 0 x ≠ -1 := by have := hx.1.2; omega
  have f2 := ((F x b.1 b.2).2 x0).2 z1
  have eC : scC P L x = cel L (P 6 (2 * x + L 5 (x - 32))) x := by
    unfold scC cel
    rw [gL_5 ⟨by omega, by omega⟩, gL_2 ⟨by omega, by omega⟩, gK_in ⟨by omega, by omega⟩ (by decide), wr_id (by omega)]
  obtain ⟨p1, p2, p3, p4⟩ := saG_e W F hM hx z axs hS (L 2 x).toNat (Nat.le_refl _)
  have eQ : scQ P L x = saG P L x (L 5 (x - 32)) (L 2 x).toNat := by
    unfold scQ
    rw [gL_5 ⟨by omega, by omega⟩, gL_2 ⟨by omega, by omega⟩]
  obtain ⟨N, hN, hz, hnz⟩ := frS9_end hS
  have se := shr_e hN hz hnz
  unfold scF
  rw [eC, eQ, p2]
  generalize saG P L x (L 5 (x - 32)) (L 2 x).toNat = Q at *
  generalize cel L (P 6 (2 * x + L 5 (x - 32))) x = a at *
  generalize hle : (fun k => VC P (mbrF L x k) (L 5 (x - 32))) = le at *
  generalize hwt : (fun k => L 3 (mbrF L x k)) = wt at *
  generalize hm : (L 2 x).toNat = m at *
  have hQ : ShQ Q m le wt := by
    first | with_reducible refine Lk.mk ?_ | with_reducible refine RfQ.mk ?_ ?_ ?_ ?_ | with_reducible refine ShQ.mk ?_ ?_ ?_ ?_ | with_reducible refine Que.mk ?_ ?_ ?_ ?_ ?_ ?_ ?_ ?_ | with_reducible refine QuI.mk ?_ ?_ ?_ ?_ ?_ ?_ | with_reducible refine Ord.mk ?_ ?_ ?_ ?_ ?_ ?_ ?_ ?_ ?_ ?_ | with_reducible refine LnI.mk ?_ ?_ ?_ ?_ ?_ ?_ ?_ ?_ ?_ ?_ ?_ ?_ ?_ ?_ ?_ ?_ ?_ | with_reducible refine Rl.mk ?_ ?_ ?_ ?_ ?_ ?_ ?_ ?_ ?_ ?_ ?_ ?_ ?_ | with_reducible refine Wf.mk ?_ ?_ ?_ ?_ ?_ ?_ ?_ ?_ ?_ ?_ ?_ | with_reducible refine Mb.mk ?_ ?_ ?_ ?_ ?_ | constructor
    · exact p1
    · exact p2
    · intro k k1 k2; rw [(p3 k k1 k2).1, ← hle]
    · intro k k1 k2; rw [(p3 k k1 k2).2.1, ← hwt]
  have q13 : ∀ k : Int, 0 ≤ k → k < m → Q 13 k = 1 := fun k k1 k2 => (p3 k k1 k2).2.2
  by_cases ht : a ≤ smG le m
  · obtain ⟨g1, g2, -⟩ := glF_e hS hQ q13 (by omega) ht
    have e11 : P 0 11 = Q 0 11 := (p4 0 11 (by omega) (by omega) (by omega) (by omega)).symm
    have g11 : glF Q a 0 11 = Q 0 11 := g2 0 11 (by omega)
    rw [if_pos ht, e11, wr_id (by omega), sK_in ⟨by omega, by omega⟩ (by decide) (by omega)]
    refine ⟨fun k k1 k2 => ?_, fun i => ?_, ?_, fun k i h8 h9 h10 h11 h12 h13 h0 => ?_⟩
    · rw [up_e, if_neg (by omega), up_e, if_neg (by omega), g1 k k1 (by omega), se, if_pos ht]
    · rw [up_e]
      by_cases y : i = x
      · rw [if_pos ⟨rfl, y⟩, if_pos y, if_pos ht]
      · rw [if_neg (fun q => y q.2), if_neg y, up_e, if_neg (by omega), g2 8 i (by omega), p4 8 i (by omega) (by omega) (by omega) (by omega)]
    · rw [up_e, if_neg (by omega), up_e, if_pos ⟨rfl, rfl⟩, if_pos ht]
    · rw [up_e, if_neg (by omega), up_e, if_neg (by omega), g2 k i h12, p4 k i h9 h10 h11 h13]
  · obtain ⟨g1, g2⟩ := gwF_e hS hQ q13 (by omega) hN hz hnz
    rw [if_neg ht, sK_in ⟨by omega, by omega⟩ (by decide) (by omega)]
    refine ⟨fun k k1 k2 => ?_, fun i => ?_, ?_, fun k i h8 h9 h10 h11 h12 h13 h0 => ?_⟩
    · rw [up_e, if_neg (by omega), g1 k k1 (by omega), se, if_neg ht]
    · rw [up_e]
      by_cases y : i = x
      · rw [if_pos ⟨rfl, y⟩, if_pos y, if_neg ht]
      · rw [if_neg (fun q => y q.2), if_neg y, g2 8 i (by omega) (by omega), p4 8 i (by omega) (by omega) (by omega) (by omega)]
    · rw [up_e, if_neg (by omega), g2 0 11 (by omega) (by omega), p4 0 11 (by omega) (by omega) (by omega) (by omega), if_neg ht]; omega
    · rw [up_e, if_neg (by omega), g2 k i h12 h13, p4 k i h9 h10 h11 h13]
