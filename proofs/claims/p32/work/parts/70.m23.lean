/-! sharing: the class's passes -/
theorem dv_e {x y : Int} (hx : 0 ≤ x ∧ x ≤ 2147483647) (hy : 0 < y ∧ y ≤ 2147483647) : dv x y = x / y := by
  have h1 := Int.ediv_nonneg hx.1 (Int.le_of_lt hy.1)
  have h2 := Int.ediv_le_self y hx.1
  unfold dv
  rw [I32_div hx hy]
  exact I32_toInt ⟨by omega, by omega⟩
theorem saG_e {P L : Mem} {x ax : Int} (W : Wf L (-1)) (F : Fu L) (hM : MoT P L) (hx : InT L x) (z : isZ x) (ha : ax = 0 ∨ ax = 1) {a : Int} (hS : ShOk (L 2 x).toNat a (fun k => VC P (mbrF L x k) ax) (fun k => L 3 (mbrF L x k))) :
    ∀ j : Nat, j ≤ (L 2 x).toNat → saG P L x ax j 9 4 = j ∧ saG P L x ax j 9 5 = smG (fun k => VC P (mbrF L x k) ax) j ∧ (∀ k : Int, 0 ≤ k → k < j → saG P L x ax j 10 k = VC P (mbrF L x k) ax ∧ saG P L x ax j 11 k = L 3 (mbrF L x k) ∧ saG P L x ax j 13 k = 1) ∧
      (∀ (k : Nat) (i : Int), k ≠ 9 → k ≠ 10 → k ≠ 11 → k ≠ 13 → saG P L x ax j k i = P k i)
  | 0, _ => by
    refine ⟨?_, ?_, fun k h1 h2 => by omega, fun k i h9 h10 h11 h13 => ?_⟩
    · show shClr P 9 4 = 0
      unfold shClr; rw [up_e, if_neg (by omega), up_e, if_pos ⟨rfl, rfl⟩]
    · show shClr P 9 5 = 0
      unfold shClr; rw [up_e, if_pos ⟨rfl, rfl⟩]
    · show shClr P k i = P k i
      unfold shClr; rw [up_e, if_neg (by omega), up_e, if_neg (by omega)]
  | j + 1, hj => by
    have b := hx.rg
    obtain ⟨p1, p2, p3, p4⟩ := saG_e W F hM hx z ha hS j (by omega)
    have nn := W.mb.nng x (by omega) (by omega)
    have m16 := hS.1
    have kj := hS.2.2 j (by omega) (by omega)
    have kr := (kidT W z (j := j) ⟨by omega, by omega⟩).rg
    have sle : 0 ≤ smG (fun k => VC P (mbrF L x k) ax) j ∧ smG (fun k => VC P (mbrF L x k) ax) j ≤ 16000 := by
      have e1 := smG_ge (fun k => VC P (mbrF L x k) ax) 0 j (fun k h1 h2 => by have : 1 ≤ VC P (mbrF L x k) ax ∧ VC P (mbrF L x k) ax ≤ 1000 := (hS.2.2 k h1 (by omega)).1; show 0 ≤ VC P (mbrF L x k) ax; omega)
      have e2 := smG_le (fun k => VC P (mbrF L x k) ax) 1000 j (fun k h1 h2 => by have : 1 ≤ VC P (mbrF L x k) ax ∧ VC P (mbrF L x k) ax ≤ 1000 := (hS.2.2 k h1 (by omega)).1; show VC P (mbrF L x k) ax ≤ 1000; omega)
      omega
    have hM2 : MoT (saG P L x ax j) L := fun h i a b c d => by rw [p4 1 _ (by omega) (by omega) (by omega) (by omega)]; exact hM h i a b c d
    have me : mo (saG P L x ax j) x j = mbrF L x j := mo_e W F hM2 ⟨by omega, by omega⟩
    rw [saG, me, gK_in ⟨by omega, by omega⟩ (by decide), p4 4 _ (by omega) (by omega) (by omega) (by omega), gL_3 ⟨by omega, by omega⟩]
    generalize saG P L x ax j = Q at *
    have v1 : P 4 (2 * mbrF L x j + ax) = VC P (mbrF L x j) ax := rfl
    rw [v1]
    have kj1 : 1 ≤ VC P (mbrF L x j) ax ∧ VC P (mbrF L x j) ax ≤ 1000 := kj.1
    have kj2 : 1 ≤ L 3 (mbrF L x j) ∧ L 3 (mbrF L x j) ≤ 1000000 := kj.2
    unfold shAdd
    rw [p1, sK_in (P := Q) ⟨by omega, by omega⟩ (by decide) (by omega), sK_in ⟨by omega, by omega⟩ (by decide) (by omega), sK_in ⟨by omega, by omega⟩ (by decide) (by omega), wr_id (x := Q 9 5 + VC P (mbrF L x j) ax) (by omega), wr_id (x := (j : Int) + 1) (by omega)]
    refine ⟨?_, ?_, fun k h1 h2 => ?_, fun k i h9 h10 h11 h13 => ?_⟩
    · rw [up_e, if_pos ⟨rfl, rfl⟩]; omega
    · rw [up_e, if_neg (by omega), up_e, if_pos ⟨rfl, rfl⟩, p2]
      rfl
    · by_cases y : k = j
      · subst y
        refine ⟨?_, ?_, ?_⟩ <;> simp only [up_e] <;> simp
      · have := p3 k h1 (by omega)
        refine ⟨?_, ?_, ?_⟩ <;> simp only [up_e] <;> simp [y, this]
    · simp only [up_e]
      rw [if_neg (by omega), if_neg (by omega), if_neg (by omega), if_neg (by omega), if_neg (by omega)]
      exact p4 k i h9 h10 h11 h13
theorem hoL_b (fr : Int → Int) {lf : Int} : ∀ j : Nat, hoL fr lf j ≤ max lf 0 ∧ (min lf 0 ≤ hoL fr lf j)
  | 0 => by show lf ≤ max lf 0 ∧ min lf 0 ≤ lf; omega
  | j + 1 => by
    have := hoL_b fr (lf := lf) j
    unfold hoL
    split <;> omega
theorem hoG_e {P : Mem} {c : Int} {fr g : Int → Int} {m : Nat} (hm : m ≤ 16) (hc : -2147483000 ≤ c ∧ c ≤ 2147483000) (h13 : ∀ k : Int, 0 ≤ k → k < m → P 13 k = fr k) (h12 : ∀ k : Int, 0 ≤ k → k < m → P 12 k = g k ∧ -2147483000 ≤ g k ∧ g k ≤ 2147483000) :
    ∀ j : Nat, j ≤ m → (hoG P c j).2 = hoL fr c j ∧ (∀ k : Int, 0 ≤ k → k < m → (hoG P c j).1 12 k = g k + (if k < j then bnS fr c k else 0)) ∧ (∀ (k : Nat) (i : Int), k ≠ 12 → (hoG P c j).1 k i = P k i)
  | 0, _ => ⟨rfl, fun k h1 h2 => by rw [if_neg (by omega)]; show P 12 k = _; rw [(h12 k h1 h2).1]; omega, fun _ _ _ => rfl⟩
  | j + 1, hj => by
    obtain ⟨p1, p2, p3⟩ := hoG_e hm hc h13 h12 j (by omega)
    have gj := h12 j (by omega) (by omega)
    have q2 := p2 j (by omega) (by omega)
    rw [if_neg (Int.lt_irrefl _), Int.add_zero] at q2
    have l := hoL_b fr (lf := c) j
    rw [hoG, gK_in (k := 13) ⟨by omega, by omega⟩ (by decide), p3 13 _ (by omega), h13 j (by omega) (by omega), p1, gK_in (k := 12) ⟨by omega, by omega⟩ (by decide), q2]
    have eb : bnS fr c j = if 0 < hoL fr c j ∧ fr j = 1 then 1 else 0 := by
      unfold bnS
      rw [show ((j : Nat) : Int).toNat = j from by omega]
    by_cases z : 0 < hoL fr c j ∧ fr j = 1
    · rw [if_pos z, sK_in ⟨by omega, by omega⟩ (by decide) (by omega)]
      rw [if_pos z] at eb
      refine ⟨?_, fun k h1 h2 => ?_, fun k i hk => ?_⟩
      · show hoL fr c j - 1 = hoL fr c (j + 1)
        rw [hoL, if_pos z]
      · show up (hoG P c j).1 12 j (g j + 1) 12 k = _
        rw [up_e]
        by_cases y : k = j
        · subst y; rw [if_pos ⟨rfl, rfl⟩, if_pos (by omega), eb]
        · rw [if_neg (fun q => y q.2), p2 k h1 h2]
          by_cases w : k < j
          · rw [if_pos w, if_pos (by omega)]
          · rw [if_neg w, if_neg (by omega)]
      · show up (hoG P c j).1 12 j (g j + 1) k i = _
        rw [up_e, if_neg (by omega)]; exact p3 k i hk
    · rw [if_neg z]
      rw [if_neg z] at eb
      refine ⟨?_, fun k h1 h2 => ?_, p3⟩
      · rw [p1, hoL, if_neg z]
      · rw [p2 k h1 h2]
        by_cases y : k = j
        · subst y; rw [if_neg (by omega), if_pos (by omega), eb]
        · by_cases w : k < j
          · rw [if_pos w, if_pos (by omega)]
          · rw [if_neg w, if_neg (by omega)]
/-- what a sharing stands on -/
def ShQ (Q : Mem) (m : Nat) (le wt : Int → Int) : Prop :=
  (Q 9 4 = m) ∧
  (Q 9 5 = smG le m) ∧
  (∀ k : Int, 0 ≤ k → k < m → Q 10 k = le k) ∧
  (∀ k : Int, 0 ≤ k → k < m → Q 11 k = wt k)
theorem ShQ.cnt {Q : Mem} {m : Nat} {le wt : Int → Int} (h9 : ShQ Q m le wt) : Q 9 4 = m := h9.1
theorem ShQ.ned {Q : Mem} {m : Nat} {le wt : Int → Int} (h9 : ShQ Q m le wt) : Q 9 5 = smG le m := h9.2.1
theorem ShQ.rle {Q : Mem} {m : Nat} {le wt : Int → Int} (h9 : ShQ Q m le wt) : ∀ k : Int, 0 ≤ k → k < m → Q 10 k = le k := h9.2.2.1
theorem ShQ.rwt {Q : Mem} {m : Nat} {le wt : Int → Int} (h9 : ShQ Q m le wt) : ∀ k : Int, 0 ≤ k → k < m → Q 11 k = wt k := h9.2.2.2
theorem ShQ.mk {Q : Mem} {m : Nat} {le wt : Int → Int} (h_cnt : Q 9 4 = m) (h_ned : Q 9 5 = smG le m) (h_rle : ∀ k : Int, 0 ≤ k → k < m → Q 10 k = le k) (h_rwt : ∀ k : Int, 0 ≤ k → k < m → Q 11 k = wt k) : ShQ Q m le wt := ⟨h_cnt, h_ned, h_rle, h_rwt⟩
theorem sle_b {m : Nat} {a : Int} {le wt : Int → Int} (h : ShOk m a le wt) : ∀ j : Nat, j ≤ m → 0 ≤ smG le j ∧ smG le j ≤ 16000 ∧ (0 < j → 1 ≤ smG le j)
  | 0, _ => by show (0 : Int) ≤ 0 ∧ (0 : Int) ≤ 16000 ∧ (0 < 0 → (1 : Int) ≤ 0); omega
  | j + 1, hj => by
    have hm := h.1
    have e1 := smG_ge le 1 (j + 1) (fun k h1 h2 => by have := (h.2.2 k h1 (by omega)).1; omega)
    have e2 := smG_le le 1000 (j + 1) (fun k h1 h2 => by have := (h.2.2 k h1 (by omega)).1; omega)
    omega
theorem hoL_all {lf : Int} (h : 0 ≤ lf) : ∀ j : Nat, hoL (fun _ => 1) lf j = if (j : Int) < lf then lf - j else 0
  | 0 => by show lf = if (0 : Int) < lf then lf - 0 else 0; split <;> omega
  | j + 1 => by
    unfold hoL
    rw [hoL_all h j]
    split <;> split <;> split at * <;> omega
/-- by least sizes: the class's way -/
theorem glF_e {Q : Mem} {m : Nat} {a : Int} {le wt : Int → Int} (h : ShOk m a le wt) (hQ : ShQ Q m le wt) (h1 : ∀ k : Int, 0 ≤ k → k < m → Q 13 k = 1) (hm : 0 < m) (ht : a ≤ smG le m) :
    (∀ k : Int, 0 ≤ k → k < m → glF Q a 12 k = tsS m a le k) ∧ (∀ (k : Nat) (i : Int), k ≠ 12 → glF Q a k i = Q k i) ∧ 0 ≤ tlS m a le ∧ tlS m a le ≤ m := by
  have hm16 := h.1
  have ha := h.2.1
  have sl := sle_b h m (Nat.le_refl _)
  have s1 := sl.2.2 hm
  have pb : ∀ k : Int, 0 ≤ k → k < m → 0 ≤ a * le k / smG le m ∧ a * le k / smG le m ≤ 1000 ∧ smG le m * (a * le k / smG le m) ≤ a * le k ∧ a * le k < smG le m * (a * le k / smG le m) + smG le m := by
    intro k k1 k2
    have := (h.2.2 k k1 k2).1
    have n : 0 ≤ a * le k := Int.mul_nonneg ha.1 (by omega)
    have d0 := Int.emod_def (a * le k) (smG le m)
    have d1 := Int.emod_nonneg (a * le k) (show smG le m ≠ 0 by omega)
    have d2 := Int.emod_lt_of_pos (a * le k) (show 0 < smG le m by omega)
    refine ⟨Int.ediv_nonneg n (by omega), ?_, by omega, by omega⟩
    have e : a * le k ≤ smG le m * le k := Int.mul_le_mul_of_nonneg_right ht (by omega)
    have e2 := Int.ediv_le_ediv (show 0 < smG le m by omega) e
    rw [Int.mul_ediv_cancel_left _ (by omega)] at e2
    omega
  have gp : ∀ k : Int, 0 ≤ k → k < m → glP Q a k = a * le k / smG le m := by
    intro k k1 k2
    have := (h.2.2 k k1 k2).1
    have n : 0 ≤ a * le k := Int.mul_nonneg ha.1 (by omega)
    have n2 : a * le k ≤ 1000 * 1000 := Int.mul_le_mul ha.2 this.2 (by omega) (by omega)
    unfold glP
    rw [hQ.ned, if_pos (by omega), gK_in ⟨k1, by omega⟩ (by decide), hQ.rle k k1 k2, wr_id (by omega), dv_e ⟨n, by omega⟩ ⟨by omega, by omega⟩]
  have ge : ∀ j : Nat, j ≤ m → (glG Q a j).2 = a - smG (fun k => a * le k / smG le m) j ∧ (∀ k : Int, 0 ≤ k → k < j → (glG Q a j).1 12 k = a * le k / smG le m) ∧ (∀ (k : Nat) (i : Int), k ≠ 12 → (glG Q a j).1 k i = Q k i) := by
    intro j
    induction j with
    | zero => intro _; exact ⟨by show a = a - 0; omega, fun k k1 k2 => by omega, fun _ _ _ => rfl⟩
    | succ j ih =>
      intro hj
      obtain ⟨p1, p2, p3⟩ := ih (by omega)
      have pj := pb j (by omega) (by omega)
      have s2 := smG_ge (fun k => a * le k / smG le m) 0 j (fun k k1 k2 => (pb k k1 (by omega)).1)
      have s3 := smG_le (fun k => a * le k / smG le m) 1000 j (fun k k1 k2 => (pb k k1 (by omega)).2.1)
      rw [glG, gp j (by omega) (by omega), sK_in ⟨by omega, by omega⟩ (by decide) (by omega), p1, wr_id (by omega)]
      refine ⟨?_, fun k k1 k2 => ?_, fun k i hk => ?_⟩
      · show a - smG (fun k => a * le k / smG le m) j - a * le j / smG le m = a - (smG (fun k => a * le k / smG le m) j + a * le j / smG le m)
        omega
      · show up (glG Q a j).1 12 j _ 12 k = _
        rw [up_e]
        by_cases y : k = j
        · subst y; rw [if_pos ⟨rfl, rfl⟩]
        · rw [if_neg (fun q => y q.2)]; exact p2 k k1 (by omega)
      · show up (glG Q a j).1 12 j _ k i = _
        rw [up_e, if_neg (by omega)]; exact p3 k i hk
  obtain ⟨p1, p2, p3⟩ := ge m (Nat.le_refl _)
  have tl0 : 0 ≤ tlS m a le ∧ tlS m a le ≤ m := by
    have e1 : smG (fun k => smG le m * (a * le k / smG le m)) m ≤ smG (fun k => a * le k) m := smG_mono m (fun k k1 k2 => (pb k k1 k2).2.2.1)
    have e2 : smG (fun k => a * le k) m ≤ smG (fun k => smG le m * (a * le k / smG le m) + smG le m) m := smG_mono m (fun k k1 k2 => by have := (pb k k1 k2).2.2.2; show a * le k ≤ smG le m * (a * le k / smG le m) + smG le m; omega)
    have mu1 : ∀ (c : Int) (f : Int → Int) (j : Nat), smG (fun k => c * f k) j = c * smG f j := by
      intro c f j
      induction j with
      | zero => show (0 : Int) = c * 0; omega
      | succ j ih => unfold smG; rw [ih, Int.mul_add]
    have cc : smG (fun _ => smG le m) m = smG le m * m := by
      have := mu1 (smG le m) (fun _ => 1) m
      have e3 : smG (fun _ => (1 : Int)) m = m := by
        have x1 := smG_le (fun _ => (1 : Int)) 1 m (fun _ _ _ => Int.le_refl _)
        have x2 := smG_ge (fun _ => (1 : Int)) 1 m (fun _ _ _ => Int.le_refl _)
        omega
      rw [e3] at this
      rw [← this]
      exact smG_ext m (fun o _ _ => by show smG le m = smG le m * 1; omega)
    rw [smG_add, cc, mu1, mu1] at e2
    rw [mu1, mu1] at e1
    unfold tlS
    generalize smG (fun k => a * le k / smG le m) m = t at *
    generalize smG le m = s at *
    refine ⟨?_, ?_⟩
    · have : s * t ≤ s * a := by rw [Int.mul_comm s a]; exact e1
      have := Int.le_of_mul_le_mul_left this (by omega)
      omega
    · have : s * a ≤ s * (t + m) := by rw [Int.mul_add, Int.mul_comm s a]; exact e2
      have := Int.le_of_mul_le_mul_left this (by omega)
      omega
  unfold glF hoF
  rw [hQ.cnt, show ((m : Nat) : Int).toNat = m from by omega, p1, p3 9 4 (by omega), hQ.cnt, show ((m : Nat) : Int).toNat = m from by omega]
  obtain ⟨q1, q2, q3⟩ := hoG_e (P := (glG Q a m).1) (c := a - smG (fun k => a * le k / smG le m) m) (fr := fun _ => 1) (g := fun k => a * le k / smG le m) hm16 (by unfold tlS at tl0; omega) (fun k k1 k2 => by rw [p3 13 _ (by omega)]; exact h1 k k1 k2) (fun k k1 k2 => ⟨p2 k k1 k2, by have := (pb k k1 k2).1; omega, by have := (pb k k1 k2).2.1; omega⟩) m (Nat.le_refl _)
  refine ⟨fun k k1 k2 => ?_, fun k i hk => by rw [q3 k i hk, p3 k i hk], tl0.1, tl0.2⟩
  rw [q2 k k1 k2, if_pos k2]
  unfold tsS bnS
  have e : a - smG (fun k => a * le k / smG le m) m = tlS m a le := rfl
  rw [e, hoL_all tl0.1]
  congr 1
  have : ((k.toNat : Nat) : Int) = k := by omega
  rw [this]
  by_cases y : k < tlS m a le
  · rw [if_pos y, if_pos y, if_pos ⟨by omega, rfl⟩]
  · rw [if_neg y, if_neg y, if_neg (fun q => by omega)]
