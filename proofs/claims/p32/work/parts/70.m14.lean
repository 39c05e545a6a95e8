/-! MATHEMATICS OF PLANS: members -/
theorem gK_in {P : Mem} {k m : Nat} {i : Int} (h : 0 ≤ i ∧ i < m) (hm : m ≤ 1000) : gK P k m i = P k i := by
  unfold gK atF
  rw [wr_id (by omega), if_pos h]
theorem sK_in {P : Mem} {k m : Nat} {i v : Int} (h : 0 ≤ i ∧ i < m) (hm : m ≤ 1000) (hv : -2147483648 ≤ v ∧ v ≤ 2147483647) : sK P k m i v = up P k i v := by
  unfold sK puF
  rw [wr_id (by omega), wr_id hv, if_pos h]
theorem gL_0 {L : Mem} {i : Int} (h : 0 ≤ i ∧ i < 49) : gL L 0 i = L 0 i := gK_in h (by decide)
theorem gL_1 {L : Mem} {i : Int} (h : 0 ≤ i ∧ i < 49) : gL L 1 i = L 1 i := gK_in h (by decide)
theorem gL_2 {L : Mem} {i : Int} (h : 0 ≤ i ∧ i < 49) : gL L 2 i = L 2 i := gK_in h (by decide)
theorem gL_3 {L : Mem} {i : Int} (h : 0 ≤ i ∧ i < 49) : gL L 3 i = L 3 i := gK_in h (by decide)
theorem gL_4 {L : Mem} {i : Int} (h : 0 ≤ i ∧ i < 16) : gL L 4 i = L 4 i := gK_in h (by decide)
theorem gL_5 {L : Mem} {i : Int} (h : 0 ≤ i ∧ i < 16) : gL L 5 i = L 5 i := gK_in h (by decide)
theorem gL_6 {L : Mem} {i : Int} (h : 0 ≤ i ∧ i < 32) : gL L 6 i = L 6 i := gK_in h (by decide)
theorem gL_7 {L : Mem} {i : Int} (h : 0 ≤ i ∧ i < 32) : gL L 7 i = L 7 i := gK_in h (by decide)
/-- sixteen members at the most -/
theorem Wf.cnt16 {L : Mem} (W : Wf L (-1)) (F : Fu L) {h : Int} (hh : 16 ≤ h ∧ h < 49) : L 2 h ≤ 16 := by
  have c := W.cntN F
  have n47 := W.mb.nng 47 (by omega) (by omega)
  have n48 := W.mb.nng 48 (by omega) (by omega)
  have op : opN L ≤ 1 * ((16 : Nat) : Int) := smG_le _ 1 16 (fun o _ _ => by show (if L 0 o = -1 then (0 : Int) else 1) ≤ 1; split <;> omega)
  have sn : 0 * ((15 : Nat) : Int) ≤ spN L := smG_ge _ 0 15 (fun o _ _ => by show (0 : Int) ≤ (if L 0 (o + 32) = -1 then (0 : Int) else 1); split <;> omega)
  by_cases g : h < 32
  · have e := W.mb.cnt (h := h) (a := 0) (m := 16) hh ⟨by omega, by omega⟩ (fun t t1 t2 t3 => by have := W.memG ⟨t1, t2⟩ (by omega); omega)
    have := smG_le (fun i => if L 0 (i + 0) = h then (1 : Int) else 0) 1 16 (fun o _ _ => by show (if L 0 (o + 0) = h then (1 : Int) else 0) ≤ 1; split <;> omega)
    omega
  · by_cases s : h < 47
    · by_cases z : L 0 h = -1
      · have := (F h (by omega) s).1 z; omega
      · have us : Us L (-1) h := ⟨by omega, Or.inl z⟩
        have sp := W.spl h (by omega) s
        have r := W.rootE us (by omega)
        have fh := (F h (by omega) s).2 z
        -- the splits have two children each, and this one all its
        have h1 := W.cntS
        have h2 := W.mb.cnt (h := 47) (a := 16) (m := 31) ⟨by omega, by omega⟩ ⟨by omega, by omega⟩ (fun t t1 t2 t3 => by have := W.mem ⟨t1, t2⟩ (by omega); omega)
        have h5 : smG (fun i => (if 32 ≤ L 0 (i + 16) ∧ L 0 (i + 16) < 47 then 1 else 0) + (if L 0 (i + 16) = 47 then 1 else 0)) 31 ≤ smG (fun i => if L 0 (i + 16) = -1 then 0 else 1) 31 := by
          refine smG_mono 31 fun i i1 i2 => ?_
          show (if 32 ≤ L 0 (i + 16) ∧ L 0 (i + 16) < 47 then (1 : Int) else 0) + (if L 0 (i + 16) = 47 then 1 else 0) ≤ (if L 0 (i + 16) = -1 then (0 : Int) else 1)
          grind
        rw [smG_add, h2, ← h1, nodN] at h5
        have h6 : smG (fun i => ((if L 0 (i + 32) = -1 then 0 else 1) + (if L 0 (i + 32) = -1 then 0 else 1)) + (if i = h - 32 then L 2 h - 2 else 0)) 15 ≤ smG (fun i => L 2 (i + 32)) 15 := by
          refine smG_mono 15 fun i i1 i2 => ?_
          have f := F (i + 32) (by omega) (by omega)
          have n := W.mb.nng (i + 32) (by omega) (by omega)
          show ((if L 0 (i + 32) = -1 then (0 : Int) else 1) + (if L 0 (i + 32) = -1 then 0 else 1)) + (if i = h - 32 then L 2 h - 2 else 0) ≤ L 2 (i + 32)
          by_cases e : i = h - 32
          · rw [if_pos e, show i + 32 = h from by omega, if_neg z]; omega
          · rw [if_neg e]; grind
        rw [smG_add, smG_add, smG_one (fun _ => L 2 h - 2) (h - 32) 15 (by omega) (by omega)] at h6
        have : smG (fun i => if L 0 (i + 32) = -1 then 0 else 1) 15 = spN L := rfl
        have s1 : (1 : Int) ≤ spN L := by
          have : smG (fun i => if i = h - 32 then 1 else 0) 15 ≤ spN L := smG_mono 15 fun i i1 i2 => by
            show (if i = h - 32 then (1 : Int) else 0) ≤ (if L 0 (i + 32) = -1 then 0 else 1)
            by_cases e : i = h - 32
            · rw [if_pos e, show i + 32 = h from by omega, if_neg z]; omega
            · rw [if_neg e]; split <;> omega
          rw [smG_one (fun _ => (1 : Int)) (h - 32) 15 (by omega) (by omega)] at this
          exact this
        omega
    · by_cases s7 : h = 47
      · subst s7; have := W.win; omega
      · have : h = 48 := by omega
        subst this
        omega
/-- the table of members -/
def MoT (P L : Mem) : Prop := ∀ h i : Int, 16 ≤ h → h < 49 → 0 ≤ i → i < 16 → P 1 ((h - 16) * 16 + i) = mbrF L h i
theorem lmG_1 {P L : Mem} (W : Wf L (-1)) (F : Fu L) : ∀ j : Nat, j ≤ 49 → ∀ h i : Int, 16 ≤ h → h < 49 → 0 ≤ i → i < 16 →
    (∀ t : Int, 0 ≤ t → t < j → L 0 t = h → L 1 t = i → lmG P L j 1 ((h - 16) * 16 + i) = t) ∧ ((∀ t : Int, 0 ≤ t → t < j → L 0 t = h → L 1 t ≠ i) → lmG P L j 1 ((h - 16) * 16 + i) = -1)
  | 0, _, h, i, h1, h2, h3, h4 => by
    refine ⟨fun t t1 t2 => by omega, fun _ => ?_⟩
    show (if (1 : Nat) = 1 ∧ 0 ≤ (h - 16) * 16 + i ∧ (h - 16) * 16 + i < 528 then (-1 : Int) else P 1 ((h - 16) * 16 + i)) = -1
    rw [if_pos ⟨rfl, by omega, by omega⟩]
  | j + 1, hj, h, i, h1, h2, h3, h4 => by
    have ih := lmG_1 W F (P := P) j (by omega) h i h1 h2 h3 h4
    have hol := W.mb.hol j (by omega) (by omega)
    have rg := W.mb.rng j (by omega) (by omega)
    rw [lmG, gL_0 ⟨by omega, by omega⟩, gL_1 ⟨by omega, by omega⟩]
    by_cases z : L 0 j = -1
    · rw [if_pos z]
      refine ⟨fun t t1 t2 t3 t4 => ih.1 t t1 ?_ t3 t4, fun hn => ih.2 fun t t1 t2 => hn t t1 (by omega)⟩
      have : t ≠ j := by intro e; subst e; omega
      omega
    · have c16 := W.cnt16 F (h := L 0 j) (by omega)
      have rg := rg z
      rw [if_neg z, sK_in ⟨by omega, by omega⟩ (by decide) (by omega), up_e]
      by_cases e : L 0 j = h ∧ L 1 j = i
      · rw [if_pos ⟨rfl, by rw [e.1, e.2]⟩]
        refine ⟨fun t t1 t2 t3 t4 => W.mb.inj j t (by omega) (by omega) t1 (by omega) z (by omega) (by omega), fun hn => absurd e.2 (hn j (by omega) (by omega) e.1)⟩
      · rw [if_neg (fun y => e (by have := y.2; omega))]
        refine ⟨fun t t1 t2 t3 t4 => ih.1 t t1 ?_ t3 t4, fun hn => ih.2 fun t t1 t2 => hn t t1 (by omega)⟩
        have : t ≠ j := by intro y; subst y; exact e ⟨t3, t4⟩
        omega
theorem lmF_T {P L : Mem} (W : Wf L (-1)) (F : Fu L) : MoT (lmF P L) L := by
  intro h i h1 h2 h3 h4
  have a := lmG_1 (P := P) W F 49 (by omega) h i h1 h2 h3 h4
  unfold lmF
  by_cases c : i < L 2 h
  · obtain ⟨m1, m2, m3⟩ := mbrF_get W.mb ⟨h1, h2⟩ ⟨h3, c⟩
    exact a.1 _ m1.1 (by have := m1.2; omega) m2 m3
  · rw [mbrF_out W.mb h1 (by omega)]
    refine a.2 fun t t1 t2 t3 t4 => ?_
    have := W.mb.rng t t1 (by omega) (by omega)
    rw [t3] at this
    omega
theorem lmF_k {P L : Mem} {k : Nat} (hk : k ≠ 1) (i : Int) : lmF P L k i = P k i := by
  have : ∀ j, lmG P L j k i = P k i := by
    intro j
    induction j with
    | zero => show (if k = 1 ∧ 0 ≤ i ∧ i < 528 then (-1 : Int) else P k i) = P k i; rw [if_neg (by omega)]
    | succ j ih =>
      rw [lmG]
      split
      · exact ih
      · rw [sK_ne hk, ih]
  exact this 49
theorem mo_e {P L : Mem} (W : Wf L (-1)) (F : Fu L) (hM : MoT P L) {h i : Int} (hh : 16 ≤ h ∧ h < 49) : mo P h i = mbrF L h i := by
  unfold mo
  by_cases c : 0 ≤ i ∧ i < 16
  · rw [if_pos c, gK_in ⟨by omega, by omega⟩ (by decide), hM h i hh.1 hh.2 c.1 c.2]
  · have := W.cnt16 F hh
    rw [if_neg c, mbrF_out W.mb hh.1 (by omega)]
