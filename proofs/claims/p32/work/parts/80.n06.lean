/-! a new split takes a node's place, with it and a group as children -/
def w3 (p q b v : Int) : Int := if v < p then v else if v ≤ q then v + 2 - b else v + 3
theorem w3_e (p q b v : Int) : (v < p ∧ w3 p q b v = v) ∨ (p ≤ v ∧ v ≤ q ∧ w3 p q b v = v + 2 - b) ∨ (p ≤ v ∧ q < v ∧ w3 p q b v = v + 3) := by
  unfold w3
  split
  · exact Or.inl ⟨by assumption, rfl⟩
  · split <;> omega
def wO (o c : Int → Int) (x s g b y : Int) : Int := if y = s then o x else if y = g then (if b = 0 then o x + 1 else c x + 2) else w3 (o x) (c x) b (o y)
def wC (o c : Int → Int) (x s g b y : Int) : Int := if y = s then c x + 3 else if y = g then (if b = 0 then o x + 1 else c x + 2) else w3 (o x) (c x) b (c y)
section SW
variable {L L' : Mem} {m : Int} {Q Q' o c : Int → Int}
theorem Sg.wrp (T : Tw L) (S : Sg L m Q o c) {x s g kd b : Int} (hx : Tn L x) (hs : 32 ≤ s ∧ s < 47) (s0 : L 0 s = -1) (s2 : L 2 s = 0) (hg : 16 ≤ g ∧ g < 32) (g0 : L 0 g = -1) (hb : b = 0 ∨ b = 1) (hk : kd = 2 ∨ kd = 3)
    (e0 : ∀ y : Int, 16 ≤ y → y < 47 → L' 0 y = if y = s then L 0 x else if y = x ∨ y = g then s else L 0 y)
    (e1 : ∀ y : Int, 16 ≤ y → y < 47 → L' 1 y = if y = s then L 1 x else if y = x then 1 - b else if y = g then b else L 1 y)
    (e2 : ∀ y : Int, 16 ≤ y → y < 48 → L' 2 y = if y = s then 2 else L 2 y)
    (e3 : ∀ y : Int, 16 ≤ y → y < 47 → L' 3 y = if y = s then L 3 x else if y = x ∨ y = g then 1 else L 3 y) (e5 : ∀ y : Int, 0 ≤ y → y < 15 → L' 5 y = if y = s - 32 then kd - 2 else L 5 y)
    (q1 : ∀ v r : Int, 0 ≤ v → v < m → 0 ≤ r → r ≤ 2 → Q' (3 * w3 (o x) (c x) b v + r) = if v = o x ∧ r = 1 then 1 else Q (3 * v + r))
    (q2 : Q' (3 * o x) = kd) (q2' : L 0 x ≠ 47 → Q' (3 * o x + 1) = Q (3 * o x + 1))
    (q3 : Q' (3 * (if b = 0 then o x + 1 else c x + 2)) = 1 ∧ Q' (3 * (if b = 0 then o x + 1 else c x + 2) + 1) = 1 ∧ Q' (3 * (if b = 0 then o x + 1 else c x + 2) + 2) = g - 16)
    (q4 : Q' (3 * (c x + 3)) = 4) :
    Sg L' (m + 3) Q' (wO o c x s g b) (wC o c x s g b) := by
  have rx := S.rng x hx
  have hlx := T.hol x hx
  have nos : ∀ y : Int, 0 ≤ y → y < 49 → L 0 y ≠ s := fun y h1 h2 e => by
    have := T.mb.rng y h1 h2 (by omega)
    rw [e, s2] at this
    omega
  have ns : ∀ y : Int, Tn L y → y ≠ s := fun y h q => h.2.1 (by rw [q]; exact s0)
  have ng : ∀ y : Int, Tn L y → y ≠ g := fun y h q => h.2.1 (by rw [q]; exact g0)
  have oxx : ∀ y : Int, Tn L y → o y = o x → y = x := fun y h e => S.inj y x h hx e
  have cxx : ∀ y : Int, Tn L y → c y = c x → y = x := fun y h e => S.cc h hx e
  have ocx : ∀ y : Int, Tn L y → c y = o x → y = x := fun y h e => S.oc h hx e
  have xoc : ∀ y : Int, Tn L y → o y = c x → x = y := fun y h e => S.oc hx h e.symm
  have psp : ∀ y : Int, Tn L y → L 0 y ≠ 47 → Tn L (L 0 y) ∧ 32 ≤ L 0 y ∧ o (L 0 y) < c (L 0 y) := fun y h q => by
    have a := T.hol y h
    have p := T.par y h q
    exact ⟨p, by omega, (S.spl _ p (by omega)).2.2⟩
  have rtx := S.rot x hx
  have wgx := S.wgt x hx
  have fsx := S.fst x hx
  have nx1 := fun u (hu : Tn L u) => S.nxt x u hx hu
  have nx2 := fun y (hy : Tn L y) => S.nxt y x hy hx
  have lsx := S.lst x hx
  generalize eox : o x = ox at *
  generalize ecx : c x = cx at *
  -- where the new things lie
  have vs : wO o c x s g b s = ox ∧ wC o c x s g b s = cx + 3 := by
    unfold wO wC
    rw [if_pos rfl, if_pos rfl, eox, ecx]
    exact ⟨rfl, rfl⟩
  have vg : wO o c x s g b g = (if b = 0 then ox + 1 else cx + 2) ∧ wC o c x s g b g = (if b = 0 then ox + 1 else cx + 2) := by
    unfold wO wC
    have ngs : g ≠ s := by omega
    rw [if_neg ngs, if_pos rfl, if_neg ngs, if_pos rfl, eox, ecx]
    exact ⟨rfl, rfl⟩
  have vo : ∀ y : Int, Tn L y → wO o c x s g b y = w3 ox cx b (o y) ∧ wC o c x s g b y = w3 ox cx b (c y) := fun y h => by
    unfold wO wC
    rw [if_neg (ns y h), if_neg (ng y h), if_neg (ns y h), if_neg (ng y h), eox, ecx]
    exact ⟨rfl, rfl⟩
  have gp : (b = 0 ∧ (if b = 0 then ox + 1 else cx + 2) = ox + 1) ∨ (b = 1 ∧ (if b = 0 then ox + 1 else cx + 2) = cx + 2) := by
    rcases hb with e | e
    · exact Or.inl ⟨e, by rw [if_pos e]⟩
    · exact Or.inr ⟨e, by rw [if_neg (by omega)]⟩
  generalize (if b = 0 then ox + 1 else cx + 2) = gpt at *
  generalize wO o c x s g b = O at *
  generalize wC o c x s g b = C at *
  have tn : ∀ y : Int, Tn L' y ↔ y = s ∨ y = g ∨ Tn L y := fun y => by
    constructor
    · intro h
      have e := e0 y h.1.1 h.1.2
      by_cases q : y = s
      · exact Or.inl q
      · rw [if_neg q] at e
        by_cases q2 : y = x ∨ y = g
        · rcases q2 with q2 | q2
          · exact Or.inr (Or.inr (by rw [q2]; exact hx))
          · exact Or.inr (Or.inl q2)
        · rw [if_neg q2] at e
          have := h.2
          exact Or.inr (Or.inr ⟨h.1, by omega, by omega⟩)
    · rintro (q | q | h)
      · subst q
        have e := e0 y (by omega) (by omega)
        rw [if_pos rfl] at e
        have := hx.2
        exact ⟨⟨by omega, by omega⟩, by omega, by omega⟩
      · subst q
        have e := e0 y (by omega) (by omega)
        rw [if_neg (by omega), if_pos (Or.inr rfl)] at e
        exact ⟨⟨by omega, by omega⟩, by omega, by omega⟩
      · have e := e0 y h.1.1 h.1.2
        rw [if_neg (ns y h)] at e
        by_cases q2 : y = x ∨ y = g
        · rw [if_pos q2] at e
          exact ⟨h.1, by omega, by omega⟩
        · rw [if_neg q2] at e
          have := h.2
          exact ⟨h.1, by omega, by omega⟩
  have s0' : L' 0 s = L 0 x := by rw [e0 s (by omega) (by omega), if_pos rfl]
  have s1' : L' 1 s = L 1 x := by rw [e1 s (by omega) (by omega), if_pos rfl]
  have g0' : L' 0 g = s := by rw [e0 g (by omega) (by omega), if_neg (by omega), if_pos (Or.inr rfl)]
  have g1' : L' 1 g = b := by rw [e1 g (by omega) (by omega), if_neg (by omega), if_neg (fun e => ng x hx e.symm), if_pos rfl]
  have x0' : L' 0 x = s := by rw [e0 x hx.1.1 hx.1.2, if_neg (ns x hx), if_pos (Or.inl rfl)]
  have x1' : L' 1 x = 1 - b := by rw [e1 x hx.1.1 hx.1.2, if_neg (ns x hx), if_pos rfl]
  have h0 : ∀ y : Int, Tn L y → y ≠ x → L' 0 y = L 0 y := fun y h q => by rw [e0 y h.1.1 h.1.2, if_neg (ns y h), if_neg (fun z => z.elim q (ng y h))]
  have h1 : ∀ y : Int, Tn L y → y ≠ x → L' 1 y = L 1 y := fun y h q => by rw [e1 y h.1.1 h.1.2, if_neg (ns y h), if_neg q, if_neg (ng y h)]
  have row0 : ∀ v : Int, 0 ≤ v → v < m → Q' (3 * w3 ox cx b v) = Q (3 * v) := fun v v1 v2 => by
    have := q1 v 0 v1 v2 (by omega) (by omega)
    rw [if_neg (by omega), Int.add_zero, Int.add_zero] at this
    exact this
  refine Sg.mk (fun y h => ?_) (fun y h q => ?_) (fun y h q => ?_) (fun y h q => ?_) (fun y h q => ?_) (fun y h q z => ?_) (fun y u h hu q z f => ?_) (fun y h q z => ?_) (fun y u h hu q => ?_) (fun y u h hu y32 u32 q => ?_) (fun j j1 j2 => ?_) (fun q => ?_) (fun y y1 y2 => ?_) (by omega)
  · rcases (tn y).mp h with e | e | h
    · rw [e, vs.1, vs.2]; omega
    · rw [e, vg.1, vg.2]; omega
    · have r := S.rng y h
      have a := w3_e ox cx b (o y)
      have d := w3_e ox cx b (c y)
      rw [(vo y h).1, (vo y h).2]
      omega
  · rcases (tn y).mp h with e | e | h
    · rw [e, s0'] at q
      rw [e, vs.1, vs.2]
      have := rtx q
      omega
    · rw [e, g0'] at q; omega
    · by_cases yx : y = x
      · rw [yx, x0'] at q; omega
      · rw [h0 y h yx] at q
        have r := S.rot y h q
        have a := w3_e ox cx b (o y)
        have d := w3_e ox cx b (c y)
        have k1 : o y ≠ ox := fun e => yx (oxx y h e)
        have k2 : c y ≠ cx := fun e => yx (cxx y h e)
        rw [(vo y h).1, (vo y h).2]
        omega
  · rcases (tn y).mp h with e | e | h
    · omega
    · rw [e, vg.1, vg.2]
      exact ⟨rfl, q3.1, q3.2.2⟩
    · have r := S.rng y h
      have l := S.lef y h q
      rw [(vo y h).1, (vo y h).2, row0 _ r.1 (by omega), q1 _ 2 r.1 (by omega) (by omega) (by omega), l.1, if_neg (by omega)]
      exact ⟨rfl, l.2⟩
  · rcases (tn y).mp h with e | e | h
    · rw [e, vs.1, vs.2, e5 _ (by omega) (by omega), if_pos rfl]
      exact ⟨by omega, q4, by omega⟩
    · omega
    · have r := S.rng y h
      have l := S.spl y h q
      have a := w3_e ox cx b (o y)
      have d := w3_e ox cx b (c y)
      rw [(vo y h).1, (vo y h).2, row0 _ r.1 (by omega), row0 _ (by omega) r.2.2, e5 _ (by omega) (by have := h.1; omega), if_neg (by have := ns y h; omega)]
      exact ⟨l.1, l.2.1, by omega⟩
  · rcases (tn y).mp h with e | e | h
    · rw [e, s0'] at q
      rw [e, vs.1, e3 s (by omega) (by omega), if_pos rfl, q2' q]
      exact wgx q
    · rw [e, vg.1, e3 g (by omega) (by omega), if_neg (by omega), if_pos (Or.inr rfl)]
      exact q3.2.1
    · have r := S.rng y h
      rw [(vo y h).1, q1 _ 1 r.1 (by omega) (by omega) (by omega), e3 y h.1.1 h.1.2, if_neg (ns y h)]
      by_cases yx : y = x
      · rw [if_pos ⟨by rw [yx, eox], rfl⟩, if_pos (Or.inl yx)]
      · rw [h0 y h yx] at q
        rw [if_neg (fun z => yx (oxx y h z.1)), if_neg (fun z => z.elim yx (ng y h))]
        exact S.wgt y h q
  · rcases (tn y).mp h with e | e | h
    · rw [e, s0'] at q
      rw [e, s1'] at z
      have f := fsx q z
      obtain ⟨hp, p32, -⟩ := psp x hx q
      have a := w3_e ox cx b (o (L 0 x))
      rw [e, s0', vs.1, (vo _ hp).1]
      omega
    · rw [e, g1'] at z
      rw [e, g0', vs.1, vg.1]
      omega
    · by_cases yx : y = x
      · rw [yx, x1'] at z
        have a := w3_e ox cx b (o x)
        rw [yx, x0', vs.1, (vo x hx).1]
        omega
      · rw [h0 y h yx] at q ⊢
        rw [h1 y h yx] at z
        have f := S.fst y h q z
        obtain ⟨hp, p32, pl⟩ := psp y h q
        have a := w3_e ox cx b (o y)
        have d := w3_e ox cx b (o (L 0 y))
        have k1 : o y ≠ ox := fun e => yx (oxx y h e)
        have k2 : o (L 0 y) ≠ cx := fun e => by
          have := xoc _ hp e
          have e2 : c (L 0 y) = cx := by rw [← this]; exact ecx
          omega
        rw [(vo y h).1, (vo _ hp).1]
        omega
  · rcases (tn y).mp h with e | e | h
    · rw [e, s0'] at q z
      rw [e, s1'] at f
      rcases (tn u).mp hu with e2 | e2 | hu
      · rw [e2, s1'] at f; omega
      · rw [e2, g0'] at z
        exact absurd z.symm (nos x (by have := hx.1; omega) (by have := hx.1; omega))
      · by_cases ux : u = x
        · rw [ux, x0'] at z
          exact absurd z.symm (nos x (by have := hx.1; omega) (by have := hx.1; omega))
        · rw [h0 u hu ux] at z
          rw [h1 u hu ux] at f
          have g9 := nx1 u hu q z f
          have a := w3_e ox cx b (o u)
          rw [e, vs.2, (vo u hu).1]
          omega
    · rw [e, g0'] at z
      rw [e, g1'] at f
      rcases (tn u).mp hu with e2 | e2 | hu
      · rw [e2, s0'] at z
        exact absurd z (nos x (by have := hx.1; omega) (by have := hx.1; omega))
      · rw [e2, g1'] at f; omega
      · by_cases ux : u = x
        · rw [ux, x1'] at f
          have a := w3_e ox cx b (o x)
          rw [e, ux, vg.2, (vo x hx).1]
          omega
        · rw [h0 u hu ux] at z
          exact absurd z (nos u (by have := hu.1; omega) (by have := hu.1; omega))
    · by_cases yx : y = x
      · rw [yx, x0'] at z
        rw [yx, x1'] at f
        rcases (tn u).mp hu with e2 | e2 | hu
        · rw [e2, s0'] at z
          exact absurd z (nos x (by have := hx.1; omega) (by have := hx.1; omega))
        · rw [e2, g1'] at f
          have a := w3_e ox cx b (c x)
          rw [e2, yx, vg.1, (vo x hx).2]
          omega
        · by_cases ux : u = x
          · rw [ux, x1'] at f; omega
          · rw [h0 u hu ux] at z
            exact absurd z (nos u (by have := hu.1; omega) (by have := hu.1; omega))
      · rw [h0 y h yx] at q z
        rw [h1 y h yx] at f
        have ny := nos y (by have := h.1; omega) (by have := h.1; omega)
        have d := w3_e ox cx b (c y)
        have k2 : c y ≠ cx := fun e => yx (cxx y h e)
        rcases (tn u).mp hu with e2 | e2 | hu
        · rw [e2, s0'] at z
          rw [e2, s1'] at f
          have g9 := nx2 y h q z f
          rw [e2, vs.1, (vo y h).2]
          omega
        · rw [e2, g0'] at z
          exact absurd z.symm ny
        · by_cases ux : u = x
          · rw [ux, x0'] at z
            exact absurd z.symm ny
          · rw [h0 u hu ux] at z
            rw [h1 u hu ux] at f
            have g9 := S.nxt y u h hu q z f
            have a := w3_e ox cx b (o u)
            have k1 : o u ≠ ox := fun e => ux (oxx u hu e)
            rw [(vo u hu).1, (vo y h).2]
            omega
  · rcases (tn y).mp h with e | e | h
    · rw [e, s0'] at q z
      obtain ⟨hp, p32, -⟩ := psp x hx q
      rw [s1', e2 _ (by omega) (by have := hp.1; omega), if_neg (ns _ hp)] at z
      have f := lsx q z
      have a := w3_e ox cx b (c (L 0 x))
      rw [e, s0', vs.2, (vo _ hp).2]
      omega
    · rw [e, g0', g1', e2 s (by omega) (by omega), if_pos rfl] at z
      rw [e, g0', vs.2, vg.2]
      omega
    · by_cases yx : y = x
      · rw [yx, x0', x1', e2 s (by omega) (by omega), if_pos rfl] at z
        have a := w3_e ox cx b (c x)
        rw [yx, x0', vs.2, (vo x hx).2]
        omega
      · rw [h0 y h yx] at q z ⊢
        obtain ⟨hp, p32, -⟩ := psp y h q
        rw [h1 y h yx, e2 _ (by omega) (by have := hp.1; omega), if_neg (ns _ hp)] at z
        have f := S.lst y h q z
        have a := w3_e ox cx b (c y)
        have d := w3_e ox cx b (c (L 0 y))
        have k1 : c y ≠ cx := fun e => yx (cxx y h e)
        have k2 : c (L 0 y) ≠ ox := fun e => S.co hp p32 hx (by rw [e, eox])
        rw [(vo y h).2, (vo _ hp).2]
        omega
  · have a := w3_e ox cx b (o y)
    have d := w3_e ox cx b (o u)
    rcases (tn y).mp h with e | e | h
    · rcases (tn u).mp hu with e2 | e2 | hu
      · rw [e, e2]
      · rw [e, e2, vs.1, vg.1] at q; omega
      · rw [e, vs.1, (vo u hu).1] at q; omega
    · rcases (tn u).mp hu with e2 | e2 | hu
      · rw [e, e2, vs.1, vg.1] at q; omega
      · rw [e, e2]
      · rw [e, vg.1, (vo u hu).1] at q; omega
    · rcases (tn u).mp hu with e2 | e2 | hu
      · rw [e2, vs.1, (vo y h).1] at q; omega
      · rw [e2, vg.1, (vo y h).1] at q; omega
      · rw [(vo y h).1, (vo u hu).1] at q
        exact S.inj y u h hu (by omega)
  · have a := w3_e ox cx b (c y)
    have d := w3_e ox cx b (c u)
    rcases (tn y).mp h with e | e | h
    · rcases (tn u).mp hu with e2 | e2 | hu
      · rw [e, e2]
      · omega
      · rw [e, vs.2, (vo u hu).2] at q; omega
    · omega
    · rcases (tn u).mp hu with e2 | e2 | hu
      · rw [e2, vs.2, (vo y h).2] at q; omega
      · omega
      · rw [(vo y h).2, (vo u hu).2] at q
        exact S.jnj y u h hu y32 u32 (by omega)
  · have fin : ∀ k : Int, 0 ≤ k → k < m → w3 ox cx b k = j → ∃ y : Int, Tn L' y ∧ (O y = j ∨ (C y = j ∧ 32 ≤ y)) := fun k k1 k2 k5 => by
      obtain ⟨y, hy, hz⟩ := S.cov k k1 k2
      refine ⟨y, (tn y).mpr (Or.inr (Or.inr hy)), ?_⟩
      rw [(vo y hy).1, (vo y hy).2]
      rcases hz with e | ⟨e, e3⟩
      · exact Or.inl (by rw [e]; exact k5)
      · exact Or.inr ⟨by rw [e]; exact k5, e3⟩
    by_cases z1 : j = ox
    · exact ⟨s, (tn s).mpr (Or.inl rfl), Or.inl (by rw [vs.1]; exact z1.symm)⟩
    by_cases z2 : j = cx + 3
    · exact ⟨s, (tn s).mpr (Or.inl rfl), Or.inr ⟨by rw [vs.2]; exact z2.symm, hs.1⟩⟩
    by_cases z3 : j = gpt
    · exact ⟨g, (tn g).mpr (Or.inr (Or.inl rfl)), Or.inl (by rw [vg.1]; exact z3.symm)⟩
    by_cases z4 : j < ox
    · have a := w3_e ox cx b j
      exact fin j j1 (by omega) (by omega)
    by_cases z5 : j < cx + 3
    · have a := w3_e ox cx b (j - (2 - b))
      exact fin (j - (2 - b)) (by omega) (by omega) (by omega)
    · have a := w3_e ox cx b (j - 3)
      exact fin (j - 3) (by omega) (by omega) (by omega)
  · rw [e2 47 (by omega) (by omega), if_neg (by omega)] at q
    have := S.emp q
    omega
  · rw [e5 _ (by omega) (by omega)]
    split
    · omega
    · exact S.axs y y1 y2
end SW
