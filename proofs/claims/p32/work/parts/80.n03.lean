/-! a group's sign is cut out -/
def dn (p v : Int) : Int := if p < v then v - 1 else v
theorem dn_e (p v : Int) : (p < v ∧ dn p v = v - 1) ∨ (v ≤ p ∧ dn p v = v) := by
  unfold dn
  split <;> omega
section SC
variable {L L' : Mem} {m : Int} {Q Q' o c : Int → Int}
theorem Sg.cut (T : Tw L) (S : Sg L m Q o c) {g : Int} (hg : Tn L g) (g32 : g < 32)
    (e0 : ∀ x : Int, 16 ≤ x → x < 47 → L' 0 x = if x = g then -1 else L 0 x)
    (e1 : ∀ x : Int, 16 ≤ x → x < 47 → x ≠ g → L 0 x ≠ 48 → L' 1 x = if L 0 x = L 0 g ∧ L 1 g < L 1 x then L 1 x - 1 else L 1 x)
    (e2 : ∀ x : Int, 16 ≤ x → x < 48 → L' 2 x = if x = L 0 g then L 2 x - 1 else L 2 x)
    (e3 : ∀ x : Int, 16 ≤ x → x < 47 → L' 3 x = L 3 x) (e5 : ∀ x : Int, 0 ≤ x → x < 15 → L' 5 x = L 5 x)
    (eQ : ∀ i : Int, 0 ≤ i → i < 3 * (m - 1) → Q' i = if i < 3 * o g then Q i else Q (i + 3)) :
    Sg L' (m - 1) Q' (fun x => dn (o g) (o x)) (fun x => dn (o g) (c x)) := by
  have lg := S.lef g hg g32
  have rg := S.rng g hg
  have hgl := T.hol g hg
  have mg := T.mb.rng g (by omega) (by omega) hg.2.1
  generalize eog : o g = og at *
  have tn : ∀ x : Int, Tn L' x ↔ Tn L x ∧ x ≠ g := fun x => by
    constructor
    · intro h
      have e := e0 x h.1.1 h.1.2
      by_cases q : x = g
      · rw [if_pos q] at e
        exact absurd e h.2.1
      · rw [if_neg q] at e
        have := h.2
        exact ⟨⟨h.1, by omega, by omega⟩, q⟩
    · rintro ⟨h, q⟩
      have e := e0 x h.1.1 h.1.2
      rw [if_neg q] at e
      have := h.2
      exact ⟨h.1, by omega, by omega⟩
  have ne : ∀ x : Int, Tn L x → x ≠ g → o x ≠ og ∧ c x ≠ og := fun x h q =>
    ⟨fun e => q (S.inj x g h hg (by omega)), fun e => q (S.cc h hg (by omega))⟩
  have h0 : ∀ x : Int, Tn L x → x ≠ g → L' 0 x = L 0 x := fun x h q => by rw [e0 x h.1.1 h.1.2, if_neg q]
  have h1 : ∀ x : Int, Tn L x → x ≠ g → L' 1 x = if L 0 x = L 0 g ∧ L 1 g < L 1 x then L 1 x - 1 else L 1 x := fun x h q => e1 x h.1.1 h.1.2 q h.2.2
  have hc : ∀ x : Int, Tn L x → x ≠ g → (L 0 x = L 0 g ∧ L 1 g < L 1 x ∧ L' 1 x = L 1 x - 1) ∨ (¬ (L 0 x = L 0 g ∧ L 1 g < L 1 x) ∧ L' 1 x = L 1 x) := fun x h q => by
    have e := h1 x h q
    by_cases z : L 0 x = L 0 g ∧ L 1 g < L 1 x
    · rw [if_pos z] at e
      exact Or.inl ⟨z.1, z.2, e⟩
    · rw [if_neg z] at e
      exact Or.inr ⟨z, e⟩
  have row : ∀ v r : Int, 0 ≤ v → v < m → v ≠ og → 0 ≤ r → r ≤ 2 → Q' (3 * dn og v + r) = Q (3 * v + r) := fun v r v1 v2 v3 r1 r2 => by
    rcases dn_e og v with ⟨a, b⟩ | ⟨a, b⟩
    · rw [b, eQ _ (by omega) (by omega), if_neg (by omega)]
      congr 1
      omega
    · rw [b, eQ _ (by omega) (by omega), if_pos (by omega)]
  have row0 : ∀ v : Int, 0 ≤ v → v < m → v ≠ og → Q' (3 * dn og v) = Q (3 * v) := fun v v1 v2 v3 => by
    have := row v 0 v1 v2 v3 (by omega) (by omega)
    rw [Int.add_zero, Int.add_zero] at this
    exact this
  have par : ∀ x : Int, Tn L x → L 0 x ≠ 47 → Tn L (L 0 x) ∧ L 0 x ≠ g ∧ 32 ≤ L 0 x := fun x h q => by
    have a := T.hol x h
    exact ⟨T.par x h q, by omega, by omega⟩
  refine Sg.mk (fun x h => ?_) (fun x h q => ?_) (fun x h q => ?_) (fun x h q => ?_) (fun x h q => ?_) (fun t h q z => ?_) (fun t u h hu q z y => ?_) (fun t h q z => ?_) (fun x y h hy q => ?_) (fun x y h hy x32 y32 q => ?_) (fun i i1 i2 => ?_) (fun q => ?_) (fun x x1 x2 => ?_) (by omega)
  · obtain ⟨h, n⟩ := (tn x).mp h
    have r := S.rng x h
    have w := ne x h n
    have a := dn_e og (o x)
    have b := dn_e og (c x)
    show 0 ≤ dn og (o x) ∧ dn og (o x) ≤ dn og (c x) ∧ dn og (c x) < m - 1
    omega
  · obtain ⟨h, n⟩ := (tn x).mp h
    rw [h0 x h n] at q
    have r := S.rot x h q
    have w := ne x h n
    have a := dn_e og (o x)
    have b := dn_e og (c x)
    show dn og (o x) = 0 ∧ dn og (c x) = m - 1 - 1
    omega
  · obtain ⟨h, n⟩ := (tn x).mp h
    have r := S.rng x h
    have w := ne x h n
    have l := S.lef x h q
    show dn og (c x) = dn og (o x) ∧ Q' (3 * dn og (o x)) = 1 ∧ Q' (3 * dn og (o x) + 2) = x - 16
    rw [row0 _ r.1 (by omega) w.1, row _ 2 r.1 (by omega) w.1 (by omega) (by omega), l.1]
    exact ⟨rfl, l.2⟩
  · obtain ⟨h, n⟩ := (tn x).mp h
    have r := S.rng x h
    have w := ne x h n
    have s := S.spl x h q
    have a := dn_e og (o x)
    have b := dn_e og (c x)
    show Q' (3 * dn og (o x)) = L' 5 (x - 32) + 2 ∧ Q' (3 * dn og (c x)) = 4 ∧ dn og (o x) < dn og (c x)
    rw [row0 _ r.1 (by omega) w.1, row0 _ (by omega) r.2.2 w.2, e5 _ (by omega) (by have := h.1; omega)]
    exact ⟨s.1, s.2.1, by omega⟩
  · obtain ⟨h, n⟩ := (tn x).mp h
    have r := S.rng x h
    have w := ne x h n
    rw [h0 x h n] at q
    show Q' (3 * dn og (o x) + 1) = L' 3 x
    rw [row _ 1 r.1 (by omega) w.1 (by omega) (by omega), e3 x h.1.1 h.1.2]
    exact S.wgt x h q
  · obtain ⟨h, n⟩ := (tn t).mp h
    rw [h0 t h n] at q
    have ct := hc t h n
    obtain ⟨hp, np, p32⟩ := par t h q
    have w := ne t h n
    have wp := ne _ hp np
    have mt := T.mb.rng t (by have := h.1; omega) (by have := h.1; omega) h.2.1
    have a := dn_e og (o t)
    have b := dn_e og (o (L 0 t))
    show dn og (o t) = dn og (o (L' 0 t)) + 1
    rw [h0 t h n]
    by_cases s : L 0 t = L 0 g ∧ L 1 g < L 1 t
    · have f1 := S.fst g hg (by omega) (by omega)
      have f2 := S.nxt g t hg h (by omega) (by omega) (by omega)
      rw [← s.1] at f1
      omega
    · have f := S.fst t h q (by omega)
      omega
  · obtain ⟨h, n⟩ := (tn t).mp h
    obtain ⟨hu, nu⟩ := (tn u).mp hu
    rw [h0 t h n] at q z
    rw [h0 u hu nu] at z
    have ct := hc t h n
    have cu := hc u hu nu
    have w := ne t h n
    have wu := ne u hu nu
    have bt := h.1
    have bu := hu.1
    have i1 := T.mb.inj t g (by omega) (by omega) (by omega) (by omega) h.2.1
    have i2 := T.mb.inj u g (by omega) (by omega) (by omega) (by omega) hu.2.1
    have a := dn_e og (o u)
    have b := dn_e og (c t)
    show dn og (o u) = dn og (c t) + 1
    by_cases s1 : L 0 t = L 0 g
    · have k1 : L 1 t ≠ L 1 g := fun e => n (i1 s1 e)
      have k2 : L 1 u ≠ L 1 g := fun e => nu (i2 (by omega) e)
      by_cases s : L 1 g < L 1 t
      · have f := S.nxt t u h hu q z (by omega)
        omega
      · by_cases s2 : L 1 g < L 1 u
        · have f1 := S.nxt t g h hg q (by omega) (by omega)
          have f2 := S.nxt g u hg hu (by omega) (by omega) (by omega)
          omega
        · have f := S.nxt t u h hu q z (by omega)
          omega
    · have f := S.nxt t u h hu q z (by omega)
      omega
  · obtain ⟨h, n⟩ := (tn t).mp h
    rw [h0 t h n] at q z
    obtain ⟨hp, np, p32⟩ := par t h q
    have ct := hc t h n
    rw [e2 _ (by omega) (by have := hp.1; omega)] at z
    have w := ne t h n
    have wp := ne _ hp np
    have bt := h.1
    have i1 := T.mb.inj t g (by omega) (by omega) (by omega) (by omega) h.2.1
    have a := dn_e og (c (L 0 t))
    have b := dn_e og (c t)
    show dn og (c (L' 0 t)) = dn og (c t) + 1
    rw [h0 t h n]
    by_cases s1 : L 0 t = L 0 g
    · have k1 : L 1 t ≠ L 1 g := fun e => n (i1 s1 e)
      rw [if_pos s1] at z
      by_cases s : L 1 g < L 1 t
      · have f := S.lst t h q (by omega)
        omega
      · rw [← s1] at mg
        have mt := T.mb.rng t (by omega) (by omega) h.2.1
        have f1 := S.lst g hg (by omega) (by rw [← s1]; omega)
        have f2 := S.nxt t g h hg q (by omega) (by omega)
        rw [← s1] at f1
        omega
    · rw [if_neg s1] at z
      have f := S.lst t h q (by omega)
      omega
  · obtain ⟨h, n⟩ := (tn x).mp h
    obtain ⟨hy, ny⟩ := (tn y).mp hy
    have w := ne x h n
    have wy := ne y hy ny
    have a := dn_e og (o x)
    have b := dn_e og (o y)
    have q : dn og (o x) = dn og (o y) := q
    exact S.inj x y h hy (by omega)
  · obtain ⟨h, n⟩ := (tn x).mp h
    obtain ⟨hy, ny⟩ := (tn y).mp hy
    have w := ne x h n
    have wy := ne y hy ny
    have a := dn_e og (c x)
    have b := dn_e og (c y)
    have q : dn og (c x) = dn og (c y) := q
    exact S.jnj x y h hy x32 y32 (by omega)
  · by_cases s : i < og
    · obtain ⟨x, hx, hz⟩ := S.cov i i1 (by omega)
      have n : x ≠ g := fun e => by subst e; omega
      have a := dn_e og (o x)
      have b := dn_e og (c x)
      refine ⟨x, (tn x).mpr ⟨hx, n⟩, ?_⟩
      show dn og (o x) = i ∨ dn og (c x) = i ∧ 32 ≤ x
      omega
    · obtain ⟨x, hx, hz⟩ := S.cov (i + 1) (by omega) (by omega)
      have n : x ≠ g := fun e => by subst e; omega
      have a := dn_e og (o x)
      have b := dn_e og (c x)
      refine ⟨x, (tn x).mpr ⟨hx, n⟩, ?_⟩
      show dn og (o x) = i ∨ dn og (c x) = i ∧ 32 ≤ x
      omega
  · rw [e2 47 (by omega) (by omega)] at q
    by_cases s : (47 : Int) = L 0 g
    · have r := S.rot g hg s.symm
      omega
    · rw [if_neg s] at q
      have := S.emp q
      omega
  · rw [e5 _ (by omega) (by omega)]
    exact S.axs x x1 x2
end SC
