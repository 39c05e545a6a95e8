/-! a group's sign is put in beside others; the first sign of all -/
def sh1 (p v : Int) : Int := if p ≤ v then v + 1 else v
theorem sh1_e (p v : Int) : (p ≤ v ∧ sh1 p v = v + 1) ∨ (v < p ∧ sh1 p v = v) := by
  unfold sh1
  split <;> omega
section SP
variable {L L' : Mem} {m : Int} {Q Q' o c : Int → Int}
theorem Sg.put (T : Tw L) (S : Sg L m Q o c) {g x pt i wt : Int} (hg : 16 ≤ g ∧ g < 32) (g0 : L 0 g = -1) (hx : Tn L x) (x32 : 32 ≤ x) (hi : 0 ≤ i ∧ i ≤ L 2 x) (n1 : 1 ≤ L 2 x) (hpt : pt = if i < L 2 x then o (mbrF L x i) else c x)
    (e0 : ∀ y : Int, 16 ≤ y → y < 47 → L' 0 y = if y = g then x else L 0 y)
    (e1 : ∀ y : Int, 16 ≤ y → y < 47 → L' 1 y = if y = g then i else if L 0 y = x ∧ i ≤ L 1 y then L 1 y + 1 else L 1 y)
    (e2 : ∀ y : Int, 16 ≤ y → y < 48 → L' 2 y = if y = x then L 2 y + 1 else L 2 y)
    (e3 : ∀ y : Int, 16 ≤ y → y < 47 → L' 3 y = if y = g then wt else L 3 y) (e5 : ∀ y : Int, 0 ≤ y → y < 15 → L' 5 y = L 5 y)
    (eQ : ∀ j : Int, 0 ≤ j → j < 3 * (m + 1) → Q' j = if j < 3 * pt then Q j else if j = 3 * pt then 1 else if j = 3 * pt + 1 then wt else if j = 3 * pt + 2 then g - 16 else Q (j - 3)) :
    Sg L' (m + 1) Q' (fun y => if y = g then pt else sh1 pt (o y)) (fun y => if y = g then pt else sh1 pt (c y)) := by
  have rx := S.rng x hx
  have xl := hx.1
  -- the place, in terms of children
  have kO := Sg.kidO T S hx x32
  have A3 : ∀ u : Int, Tn L u → L 0 u = x → L 1 u = i → o u = pt ∧ i < L 2 x := fun u hu e f => by
    have r := T.mb.rng u (by have := hu.1; omega) (by have := hu.1; omega) hu.2.1
    rw [e] at r
    have h := mbrF_hit T.mb (t := u) (h := x) ⟨by have := hu.1; omega, by have := hu.1; omega⟩ e (by omega)
    rw [f] at h
    rw [hpt, if_pos (by omega), h]
    exact ⟨rfl, by omega⟩
  have A3' : ∀ u : Int, Tn L u → o u = pt → L 0 u = x ∧ L 1 u = i := fun u hu e => by
    by_cases q : i < L 2 x
    · rw [if_pos q] at hpt
      obtain ⟨k1, k2, k3, k4⟩ := kO i.toNat (by omega)
      rw [show ((i.toNat : Nat) : Int) = i by omega] at k1 k2 k3 k4
      have := S.inj u _ hu k2 (by omega)
      rw [this]
      exact ⟨k3, k4⟩
    · rw [if_neg q] at hpt
      exact absurd (show c x = o u by omega) (S.co hx x32 hu)
  have A1 : ∀ u : Int, Tn L u → L 0 u = x → L 1 u + 1 = i → c u + 1 = pt := fun u hu e f => by
    by_cases q : i < L 2 x
    · rw [if_pos q] at hpt
      obtain ⟨k1, k2, k3, k4⟩ := kO i.toNat (by omega)
      rw [show ((i.toNat : Nat) : Int) = i by omega] at k1 k2 k3 k4
      have := S.nxt u _ hu k2 (by omega) (by omega) (by omega)
      omega
    · rw [if_neg q] at hpt
      have := S.lst u hu (by omega) (by rw [e]; omega)
      rw [e] at this
      omega
  have A2 : i = 0 → pt = o x + 1 := fun q => by
    rw [if_pos (by omega)] at hpt
    obtain ⟨k1, k2, k3, k4⟩ := kO 0 (by omega)
    have := S.fst _ k2 (by omega) (by rw [k4]; rfl)
    rw [k3] at this
    rw [hpt, q]
    exact this
  have A4 : o x < pt ∧ pt ≤ c x := by
    by_cases q : i < L 2 x
    · rw [if_pos q] at hpt
      obtain ⟨k1, k2, k3, k4⟩ := kO i.toNat (by omega)
      have cc := Sg.kidC T S hx x32 (L 2 x - 1 - i.toNat).toNat i.toNat (by omega)
      rw [show ((i.toNat : Nat) : Int) = i by omega] at k1 k2 k3 k4 cc
      have := S.rng _ k2
      omega
    · rw [if_neg q] at hpt
      have := (S.spl x hx x32).2.2
      omega
  -- a split's end at the place
  have A5 : ∀ p : Int, Tn L p → 32 ≤ p → c p = pt → p = x ∧ i = L 2 x := fun p hp p32 e => by
    by_cases q : i < L 2 x
    · rw [if_pos q] at hpt
      obtain ⟨k1, k2, k3, k4⟩ := kO i.toNat (by omega)
      rw [show ((i.toNat : Nat) : Int) = i by omega] at k1 k2 k3 k4
      exact absurd (show c p = o (mbrF L x i) by omega) (S.co hp p32 k2)
    · rw [if_neg q] at hpt
      exact ⟨S.jnj p x hp hx p32 x32 (by omega), by omega⟩
  clear hpt
  have tn : ∀ y : Int, Tn L' y ↔ y = g ∨ (Tn L y ∧ y ≠ g) := fun y => by
    constructor
    · intro h
      have e := e0 y h.1.1 h.1.2
      by_cases q : y = g
      · exact Or.inl q
      · rw [if_neg q] at e
        have := h.2
        exact Or.inr ⟨⟨h.1, by omega, by omega⟩, q⟩
    · rintro (q | ⟨h, q⟩)
      · subst q
        have e := e0 y (by omega) (by omega)
        rw [if_pos rfl] at e
        exact ⟨⟨by omega, by omega⟩, by omega, by omega⟩
      · have e := e0 y h.1.1 h.1.2
        rw [if_neg q] at e
        have := h.2
        exact ⟨h.1, by omega, by omega⟩
  have ng : ∀ y : Int, Tn L y → y ≠ g := fun y h q => h.2.1 (by rw [q]; exact g0)
  have h0 : ∀ y : Int, Tn L y → L' 0 y = L 0 y := fun y h => by rw [e0 y h.1.1 h.1.2, if_neg (ng y h)]
  have h1 : ∀ y : Int, Tn L y → L' 1 y = if L 0 y = x ∧ i ≤ L 1 y then L 1 y + 1 else L 1 y := fun y h => by rw [e1 y h.1.1 h.1.2, if_neg (ng y h)]
  have hc : ∀ y : Int, Tn L y → (L 0 y = x ∧ i ≤ L 1 y ∧ L' 1 y = L 1 y + 1) ∨ (¬ (L 0 y = x ∧ i ≤ L 1 y) ∧ L' 1 y = L 1 y) := fun y h => by
    have e := h1 y h
    by_cases z : L 0 y = x ∧ i ≤ L 1 y
    · rw [if_pos z] at e
      exact Or.inl ⟨z.1, z.2, e⟩
    · rw [if_neg z] at e
      exact Or.inr ⟨z, e⟩
  have g0' : L' 0 g = x := by rw [e0 g (by omega) (by omega), if_pos rfl]
  have g1' : L' 1 g = i := by rw [e1 g (by omega) (by omega), if_pos rfl]
  have row : ∀ v r : Int, 0 ≤ v → v < m → 0 ≤ r → r ≤ 2 → Q' (3 * sh1 pt v + r) = Q (3 * v + r) := fun v r v1 v2 r1 r2 => by
    rcases sh1_e pt v with ⟨a, b⟩ | ⟨a, b⟩
    · rw [b, eQ _ (by omega) (by omega), if_neg (by omega), if_neg (by omega), if_neg (by omega), if_neg (by omega)]
      congr 1
      omega
    · rw [b, eQ _ (by omega) (by omega), if_pos (by omega)]
  have row0 : ∀ v : Int, 0 ≤ v → v < m → Q' (3 * sh1 pt v) = Q (3 * v) := fun v v1 v2 => by
    have := row v 0 v1 v2 (by omega) (by omega)
    rw [Int.add_zero, Int.add_zero] at this
    exact this
  have par : ∀ y : Int, Tn L y → L 0 y ≠ 47 → Tn L (L 0 y) ∧ 32 ≤ L 0 y := fun y h q => by
    have a := T.hol y h
    exact ⟨T.par y h q, by omega⟩
  refine Sg.mk (fun y h => ?_) (fun y h q => ?_) (fun y h q => ?_) (fun y h q => ?_) (fun y h q => ?_) (fun y h q z => ?_) (fun y u h hu q z f => ?_) (fun y h q z => ?_) (fun y u h hu q => ?_) (fun y u h hu y32 u32 q => ?_) (fun j j1 j2 => ?_) (fun q => ?_) (fun y y1 y2 => ?_) (by omega)
  · show 0 ≤ (if y = g then pt else sh1 pt (o y)) ∧ (if y = g then pt else sh1 pt (o y)) ≤ (if y = g then pt else sh1 pt (c y)) ∧ (if y = g then pt else sh1 pt (c y)) < m + 1
    rcases (tn y).mp h with e | ⟨h, n⟩
    · rw [if_pos e, if_pos e]; omega
    · rw [if_neg n, if_neg n]
      have r := S.rng y h
      have a := sh1_e pt (o y)
      have b := sh1_e pt (c y)
      omega
  · show (if y = g then pt else sh1 pt (o y)) = 0 ∧ (if y = g then pt else sh1 pt (c y)) = m + 1 - 1
    rcases (tn y).mp h with e | ⟨h, n⟩
    · rw [e, g0'] at q; omega
    · rw [if_neg n, if_neg n]
      rw [h0 y h] at q
      have r := S.rot y h q
      have a := sh1_e pt (o y)
      have b := sh1_e pt (c y)
      omega
  · show (if y = g then pt else sh1 pt (c y)) = (if y = g then pt else sh1 pt (o y)) ∧ Q' (3 * (if y = g then pt else sh1 pt (o y))) = 1 ∧ Q' (3 * (if y = g then pt else sh1 pt (o y)) + 2) = y - 16
    rcases (tn y).mp h with e | ⟨h, n⟩
    · rw [if_pos e, if_pos e, eQ _ (by omega) (by omega), eQ _ (by omega) (by omega), if_neg (by omega), if_pos rfl, if_neg (by omega), if_neg (by omega), if_neg (by omega), if_pos rfl, e]
      exact ⟨rfl, rfl, rfl⟩
    · rw [if_neg n, if_neg n]
      have r := S.rng y h
      have l := S.lef y h q
      rw [row0 _ r.1 (by omega), row _ 2 r.1 (by omega) (by omega) (by omega), l.1]
      exact ⟨rfl, l.2⟩
  · show Q' (3 * (if y = g then pt else sh1 pt (o y))) = L' 5 (y - 32) + 2 ∧ Q' (3 * (if y = g then pt else sh1 pt (c y))) = 4 ∧ (if y = g then pt else sh1 pt (o y)) < (if y = g then pt else sh1 pt (c y))
    rcases (tn y).mp h with e | ⟨h, n⟩
    · omega
    · rw [if_neg n, if_neg n]
      have r := S.rng y h
      have s := S.spl y h q
      have a := sh1_e pt (o y)
      have b := sh1_e pt (c y)
      rw [row0 _ r.1 (by omega), row0 _ (by omega) r.2.2, e5 _ (by omega) (by have := h.1; omega)]
      exact ⟨s.1, s.2.1, by omega⟩
  · show Q' (3 * (if y = g then pt else sh1 pt (o y)) + 1) = L' 3 y
    rcases (tn y).mp h with e | ⟨h, n⟩
    · rw [if_pos e, eQ _ (by omega) (by omega), if_neg (by omega), if_neg (by omega), if_pos rfl, e3 y (by omega) (by omega), if_pos e]
    · rw [if_neg n]
      have r := S.rng y h
      rw [h0 y h] at q
      rw [row _ 1 r.1 (by omega) (by omega) (by omega), e3 y h.1.1 h.1.2, if_neg n]
      exact S.wgt y h q
  · show (if y = g then pt else sh1 pt (o y)) = (if L' 0 y = g then pt else sh1 pt (o (L' 0 y))) + 1
    rcases (tn y).mp h with e | ⟨h, n⟩
    · rw [e] at z ⊢
      rw [g1'] at z
      rw [if_pos rfl, g0', if_neg (ng x hx)]
      have := A2 z
      have a := sh1_e pt (o x)
      omega
    · rw [h0 y h] at q ⊢
      rw [h1 y h] at z
      obtain ⟨hp, p32⟩ := par y h q
      rw [if_neg n, if_neg (ng _ hp)]
      have mr := T.mb.rng y (by have := h.1; omega) (by have := h.1; omega) h.2.1
      have a := sh1_e pt (o y)
      have b := sh1_e pt (o (L 0 y))
      by_cases s : L 0 y = x ∧ i ≤ L 1 y
      · rw [if_pos s] at z
        omega
      · rw [if_neg s] at z
        have f := S.fst y h q z
        have k : o y ≠ pt := fun e => by
          have := A3' y h e
          exact s ⟨this.1, by omega⟩
        omega
  · show (if u = g then pt else sh1 pt (o u)) = (if y = g then pt else sh1 pt (c y)) + 1
    rcases (tn y).mp h with e | ⟨h, n⟩
    · rw [e, g0'] at z
      rw [e, g1'] at f
      rw [if_pos e]
      rcases (tn u).mp hu with e2 | ⟨hu, nu⟩
      · rw [e2, g1'] at f; omega
      · rw [h0 u hu] at z
        rw [h1 u hu] at f
        rw [if_neg nu]
        by_cases s : i ≤ L 1 u
        · rw [if_pos ⟨z, s⟩] at f
          have := (A3 u hu z (by omega)).1
          have a := sh1_e pt (o u)
          omega
        · rw [if_neg (fun t => s t.2)] at f
          omega
    · rw [h0 y h] at q z
      have cy := hc y h
      rw [if_neg n]
      have a := sh1_e pt (c y)
      rcases (tn u).mp hu with e2 | ⟨hu, nu⟩
      · rw [e2, g0'] at z
        rw [e2, g1'] at f
        rw [if_pos e2]
        have := A1 y h z.symm (by omega)
        omega
      · rw [h0 u hu] at z
        have cu := hc u hu
        rw [if_neg nu]
        have b := sh1_e pt (o u)
        by_cases px : L 0 y = x
        · by_cases s1 : i ≤ L 1 y
          · have g9 := S.nxt y u h hu q z (by omega)
            have k : o u ≠ pt := fun e => by
              have := (A3' u hu e).2
              omega
            omega
          · have g9 := S.nxt y u h hu q z (by omega)
            have k : o u ≠ pt := fun e => by
              have := (A3' u hu e).2
              omega
            omega
        · have g9 := S.nxt y u h hu q z (by omega)
          have k : o u ≠ pt := fun e => by
            have := (A3' u hu e).1
            omega
          omega
  · show (if L' 0 y = g then pt else sh1 pt (c (L' 0 y))) = (if y = g then pt else sh1 pt (c y)) + 1
    rcases (tn y).mp h with e | ⟨h, n⟩
    · rw [e] at q z ⊢
      rw [g0'] at q z
      rw [g1', e2 x (by omega) (by omega), if_pos rfl] at z
      rw [g0', if_neg (ng x hx), if_pos rfl]
      have a := sh1_e pt (c x)
      have k : pt = c x := by
        obtain ⟨k1, k2, k3, k4⟩ := kO (L 2 x - 1).toNat (by omega)
        have k5 := S.lst _ k2 (by omega) (by rw [k3, k4]; omega)
        have k6 := A1 _ k2 k3 (by rw [k4]; omega)
        rw [k3] at k5
        omega
      omega
    · rw [h0 y h] at q z ⊢
      rw [h1 y h] at z
      obtain ⟨hp, p32⟩ := par y h q
      rw [e2 _ (by omega) (by have := hp.1; omega)] at z
      rw [if_neg n, if_neg (ng _ hp)]
      have mr := T.mb.rng y (by have := h.1; omega) (by have := h.1; omega) h.2.1
      have a := sh1_e pt (c y)
      have b := sh1_e pt (c (L 0 y))
      by_cases px : L 0 y = x
      · rw [if_pos px] at z
        by_cases s1 : i ≤ L 1 y
        · rw [if_pos ⟨px, s1⟩] at z
          have g9 := S.lst y h q (by omega)
          have k : c (L 0 y) ≠ pt := fun e => by
            have := (A5 _ hp p32 e).2
            rw [px] at mr
            omega
          omega
        · rw [if_neg (fun t => s1 t.2)] at z
          omega
      · rw [if_neg px, if_neg (fun t => px t.1)] at z
        have g9 := S.lst y h q z
        have k : c (L 0 y) ≠ pt := fun e => px (A5 _ hp p32 e).1
        omega
  · have q : (if y = g then pt else sh1 pt (o y)) = (if u = g then pt else sh1 pt (o u)) := q
    have a := sh1_e pt (o y)
    have b := sh1_e pt (o u)
    rcases (tn y).mp h with e | ⟨h, n⟩
    · rcases (tn u).mp hu with e2 | ⟨hu, nu⟩
      · omega
      · rw [if_pos e, if_neg nu] at q; omega
    · rcases (tn u).mp hu with e2 | ⟨hu, nu⟩
      · rw [if_neg n, if_pos e2] at q; omega
      · rw [if_neg n, if_neg nu] at q
        exact S.inj y u h hu (by omega)
  · have q : (if y = g then pt else sh1 pt (c y)) = (if u = g then pt else sh1 pt (c u)) := q
    have a := sh1_e pt (c y)
    have b := sh1_e pt (c u)
    rcases (tn y).mp h with e | ⟨h, n⟩
    · omega
    · rcases (tn u).mp hu with e2 | ⟨hu, nu⟩
      · omega
      · rw [if_neg n, if_neg nu] at q
        exact S.jnj y u h hu y32 u32 (by omega)
  · have fin : ∀ k : Int, 0 ≤ k → k < m → sh1 pt k = j → ∃ y : Int, Tn L' y ∧ ((if y = g then pt else sh1 pt (o y)) = j ∨ ((if y = g then pt else sh1 pt (c y)) = j ∧ 32 ≤ y)) := fun k k1 k2 k5 => by
      obtain ⟨y, hy, hz⟩ := S.cov k k1 k2
      refine ⟨y, (tn y).mpr (Or.inr ⟨hy, ng y hy⟩), ?_⟩
      rw [if_neg (ng y hy), if_neg (ng y hy)]
      rcases hz with e | ⟨e, e3⟩
      · exact Or.inl (by rw [e]; exact k5)
      · exact Or.inr ⟨by rw [e]; exact k5, e3⟩
    by_cases z : j = pt
    · exact ⟨g, (tn g).mpr (Or.inl rfl), Or.inl (by show (if g = g then pt else sh1 pt (o g)) = j; rw [if_pos rfl]; exact z.symm)⟩
    · by_cases z2 : j < pt
      · have a := sh1_e pt j
        exact fin j j1 (by omega) (by omega)
      · have a := sh1_e pt (j - 1)
        exact fin (j - 1) (by omega) (by omega) (by omega)
  · rw [e2 47 (by omega) (by omega), if_neg (by omega)] at q
    have := S.emp q
    omega
  · rw [e5 _ (by omega) (by omega)]
    exact S.axs y y1 y2
theorem Sg.one (S : Sg L m Q o c) {g : Int} (hg : 16 ≤ g ∧ g < 32) (z : L 2 47 = 0)
    (e0 : ∀ y : Int, 16 ≤ y → y < 47 → L' 0 y = if y = g then 47 else L 0 y) (e2 : L' 2 47 = 1) (e5 : ∀ y : Int, 0 ≤ y → y < 15 → L' 5 y = L 5 y)
    (q0 : Q' 0 = 1) (q2 : Q' 2 = g - 16) : Sg L' 1 Q' (fun _ => 0) (fun _ => 0) := by
  have m0 := S.emp z
  have no : ∀ y : Int, ¬ Tn L y := fun y h => by have := S.rng y h; omega
  have tn : ∀ y : Int, Tn L' y → y = g := fun y h => by
    have e := e0 y h.1.1 h.1.2
    by_cases q : y = g
    · exact q
    · rw [if_neg q] at e
      have := h.2
      exact absurd ⟨h.1, by omega, by omega⟩ (no y)
  have eg : L' 0 g = 47 := by rw [e0 g (by omega) (by omega), if_pos rfl]
  refine Sg.mk (fun y h => ?_) (fun y h q => ?_) (fun y h q => ?_) (fun y h q => ?_) (fun y h q => ?_) (fun y h q z => ?_) (fun y u h hu q z f => ?_) (fun y h q z => ?_) (fun y u h hu q => ?_) (fun y u h hu y32 u32 q => ?_) (fun j j1 j2 => ?_) (fun q => ?_) (fun y y1 y2 => ?_) (by omega)
  · exact ⟨by show (0 : Int) ≤ 0; omega, by show (0 : Int) ≤ 0; omega, by show (0 : Int) < 1; omega⟩
  · exact ⟨rfl, rfl⟩
  · rw [tn y h]
    exact ⟨rfl, q0, q2⟩
  · have := tn y h; omega
  · rw [tn y h] at q; exact absurd eg q
  · rw [tn y h] at q; exact absurd eg q
  · rw [tn y h] at q; exact absurd eg q
  · rw [tn y h] at q; exact absurd eg q
  · rw [tn y h, tn u hu]
  · rw [tn y h, tn u hu]
  · exact ⟨g, ⟨⟨by omega, by omega⟩, by omega, by omega⟩, Or.inl (by show (0 : Int) = j; omega)⟩
  · omega
  · rw [e5 _ (by omega) (by omega)]
    exact S.axs y y1 y2
end SP
