/-! a split with one child goes, and the child takes its place -/
def d2 (p q v : Int) : Int := if q < v then v - 2 else if p < v then v - 1 else v
theorem d2_e {p q : Int} (h : p < q) (v : Int) : (q < v ∧ d2 p q v = v - 2) ∨ (p < v ∧ v ≤ q ∧ d2 p q v = v - 1) ∨ (v ≤ p ∧ d2 p q v = v) := by
  unfold d2
  split
  · exact Or.inl ⟨by assumption, rfl⟩
  · split <;> omega
section SD
variable {L L' : Mem} {m : Int} {Q Q' o c : Int → Int}
theorem Sg.con (T : Tw L) (S : Sg L m Q o c) {s t : Int} (hs : Tn L s) (s32 : 32 ≤ s) (ht : Tn L t) (hts : L 0 t = s) (one : L 2 s = 1)
    (e0 : ∀ x : Int, 16 ≤ x → x < 47 → L' 0 x = if x = s then -1 else if x = t then L 0 s else L 0 x)
    (e1 : ∀ x : Int, 16 ≤ x → x < 47 → x ≠ s → L 0 x ≠ 48 → L' 1 x = if x = t then L 1 s else L 1 x)
    (e2 : ∀ x : Int, 16 ≤ x → x < 48 → x ≠ s → L' 2 x = L 2 x)
    (e3 : ∀ x : Int, 16 ≤ x → x < 47 → L' 3 x = if x = t then L 3 s else L 3 x) (e5 : ∀ x : Int, 0 ≤ x → x < 15 → L' 5 x = L 5 x)
    (eQ : ∀ i : Int, 0 ≤ i → i < 3 * (m - 2) → Q' i = (fun j => if j = 3 * o s + 4 then Q (3 * o s + 1) else Q j) (if i < 3 * o s then i else if i < 3 * (c s - 1) then i + 3 else i + 6)) :
    Sg L' (m - 2) Q' (fun x => d2 (o s) (c s) (o x)) (fun x => d2 (o s) (c s) (c x)) := by
  have ss := S.spl s hs s32
  have rs := S.rng s hs
  have sl := hs.1
  have mt := T.mb.rng t (by have := ht.1; omega) (by have := ht.1; omega) ht.2.1
  rw [hts, one] at mt
  have ft := S.fst t ht (by omega) (by omega)
  have lt := S.lst t ht (by omega) (by rw [hts]; omega)
  rw [hts] at ft lt
  have rt := S.rng t ht
  have nts : t ≠ s := fun e => by rw [e] at ft; omega
  have only : ∀ x : Int, Tn L x → L 0 x = s → x = t := fun x h e => by
    have a := T.mb.rng x (by have := h.1; omega) (by have := h.1; omega) h.2.1
    rw [e, one] at a
    exact T.mb.inj x t (by have := h.1; omega) (by have := h.1; omega) (by have := ht.1; omega) (by have := ht.1; omega) h.2.1 (by omega) (by omega)
  have nps : L 0 s ≠ s := fun e => nts (only s hs e).symm
  have ccs := fun x (h : Tn L x) (q : x ≠ s) => (show o x ≠ o s ∧ o x ≠ c s ∧ c x ≠ o s ∧ c x ≠ c s from
    ⟨fun e => q (S.inj x s h hs e), fun e => S.co hs s32 h e.symm, fun e => q (S.oc h hs e), fun e => q (S.cc h hs e)⟩)
  have hls := T.hol s hs
  have wgs := S.wgt s hs
  have fs := S.fst s hs
  have ns := S.nxt s
  have n2 := fun x (h : Tn L x) => S.nxt x s h hs
  have lss := S.lst s hs
  have rts := S.rot s hs
  generalize eos : o s = os at *
  generalize ecs : c s = cs at *
  have tn : ∀ x : Int, Tn L' x ↔ Tn L x ∧ x ≠ s := fun x => by
    constructor
    · intro h
      have e := e0 x h.1.1 h.1.2
      by_cases q : x = s
      · rw [if_pos q] at e
        exact absurd e h.2.1
      · rw [if_neg q] at e
        by_cases z : x = t
        · subst z; exact ⟨ht, q⟩
        · rw [if_neg z] at e
          have := h.2
          exact ⟨⟨h.1, by omega, by omega⟩, q⟩
    · rintro ⟨h, q⟩
      have e := e0 x h.1.1 h.1.2
      rw [if_neg q] at e
      have := h.2
      have := hs.2
      by_cases z : x = t
      · rw [if_pos z] at e
        exact ⟨h.1, by omega, by omega⟩
      · rw [if_neg z] at e
        exact ⟨h.1, by omega, by omega⟩
  have h0 : ∀ x : Int, Tn L x → x ≠ s → L' 0 x = if x = t then L 0 s else L 0 x := fun x h q => by rw [e0 x h.1.1 h.1.2, if_neg q]
  have h1 : ∀ x : Int, Tn L x → x ≠ s → L' 1 x = if x = t then L 1 s else L 1 x := fun x h q => e1 x h.1.1 h.1.2 q h.2.2
  have row : ∀ v r : Int, 0 ≤ v → v < m → v ≠ os → v ≠ cs → 0 ≤ r → r ≤ 2 → Q' (3 * d2 os cs v + r) = if 3 * v + r = 3 * os + 4 then Q (3 * os + 1) else Q (3 * v + r) := fun v r v1 v2 v3 v4 r1 r2 => by
    rcases d2_e (show os < cs by omega) v with ⟨a, b⟩ | ⟨a, a2, b⟩ | ⟨a, b⟩
    · rw [b, eQ _ (by omega) (by omega), if_neg (by omega), if_neg (by omega), show 3 * (v - 2) + r + 6 = 3 * v + r by omega]
    · rw [b, eQ _ (by omega) (by omega), if_neg (by omega), if_pos (by omega), show 3 * (v - 1) + r + 3 = 3 * v + r by omega]
    · rw [b, eQ _ (by omega) (by omega), if_pos (by omega)]
  have row0 : ∀ v : Int, 0 ≤ v → v < m → v ≠ os → v ≠ cs → Q' (3 * d2 os cs v) = Q (3 * v) := fun v v1 v2 v3 v4 => by
    have := row v 0 v1 v2 v3 v4 (by omega) (by omega)
    rw [if_neg (by omega), Int.add_zero, Int.add_zero] at this
    exact this
  have par : ∀ x : Int, Tn L x → x ≠ t → L 0 x ≠ 47 → Tn L (L 0 x) ∧ L 0 x ≠ s := fun x h z q => ⟨T.par x h q, fun e => z (only x h e)⟩
  refine Sg.mk (fun x h => ?_) (fun x h q => ?_) (fun x h q => ?_) (fun x h q => ?_) (fun x h q => ?_) (fun x h q z => ?_) (fun x u h hu q z y => ?_) (fun x h q z => ?_) (fun x y h hy q => ?_) (fun x y h hy x32 y32 q => ?_) (fun i i1 i2 => ?_) (fun q => ?_) (fun x x1 x2 => ?_) (by omega)
  · obtain ⟨h, n⟩ := (tn x).mp h
    have r := S.rng x h
    have w := ccs x h n
    have a := d2_e (show os < cs by omega) (o x)
    have b := d2_e (show os < cs by omega) (c x)
    show 0 ≤ d2 os cs (o x) ∧ d2 os cs (o x) ≤ d2 os cs (c x) ∧ d2 os cs (c x) < m - 2
    omega
  · obtain ⟨h, n⟩ := (tn x).mp h
    rw [h0 x h n] at q
    have w := ccs x h n
    have a := d2_e (show os < cs by omega) (o x)
    have b := d2_e (show os < cs by omega) (c x)
    show d2 os cs (o x) = 0 ∧ d2 os cs (c x) = m - 2 - 1
    by_cases z : x = t
    · rw [if_pos z] at q
      have := rts q
      subst z
      omega
    · rw [if_neg z] at q
      have r := S.rot x h q
      omega
  · obtain ⟨h, n⟩ := (tn x).mp h
    have r := S.rng x h
    have w := ccs x h n
    have l := S.lef x h q
    show d2 os cs (c x) = d2 os cs (o x) ∧ Q' (3 * d2 os cs (o x)) = 1 ∧ Q' (3 * d2 os cs (o x) + 2) = x - 16
    rw [row0 _ r.1 (by omega) w.1 w.2.1, row _ 2 r.1 (by omega) w.1 w.2.1 (by omega) (by omega), l.1, if_neg (by omega)]
    exact ⟨rfl, l.2⟩
  · obtain ⟨h, n⟩ := (tn x).mp h
    have r := S.rng x h
    have w := ccs x h n
    have sp := S.spl x h q
    have a := d2_e (show os < cs by omega) (o x)
    have b := d2_e (show os < cs by omega) (c x)
    show Q' (3 * d2 os cs (o x)) = L' 5 (x - 32) + 2 ∧ Q' (3 * d2 os cs (c x)) = 4 ∧ d2 os cs (o x) < d2 os cs (c x)
    rw [row0 _ r.1 (by omega) w.1 w.2.1, row0 _ (by omega) r.2.2 w.2.2.1 w.2.2.2, e5 _ (by omega) (by have := h.1; omega)]
    exact ⟨sp.1, sp.2.1, by omega⟩
  · obtain ⟨h, n⟩ := (tn x).mp h
    have r := S.rng x h
    have w := ccs x h n
    rw [h0 x h n] at q
    show Q' (3 * d2 os cs (o x) + 1) = L' 3 x
    rw [row _ 1 r.1 (by omega) w.1 w.2.1 (by omega) (by omega), e3 x h.1.1 h.1.2]
    by_cases z : x = t
    · subst z
      rw [if_pos rfl] at q
      rw [if_pos (by omega), if_pos rfl]
      exact wgs q
    · rw [if_neg z] at q
      have : o x ≠ o t := fun e => z (S.inj x t h ht e)
      rw [if_neg (by omega), if_neg z]
      exact S.wgt x h q
  · obtain ⟨h, n⟩ := (tn x).mp h
    rw [h0 x h n] at q
    rw [h1 x h n] at z
    have w := ccs x h n
    have a := d2_e (show os < cs by omega) (o x)
    show d2 os cs (o x) = d2 os cs (o (L' 0 x)) + 1
    rw [h0 x h n]
    by_cases y : x = t
    · rw [if_pos y] at q z ⊢
      subst y
      have f := fs q z
      have b := d2_e (show os < cs by omega) (o (L 0 s))
      omega
    · rw [if_neg y] at q z ⊢
      have f := S.fst x h q z
      obtain ⟨hp, np⟩ := par x h y q
      have wp := ccs _ hp np
      have b := d2_e (show os < cs by omega) (o (L 0 x))
      omega
  · obtain ⟨h, n⟩ := (tn x).mp h
    obtain ⟨hu, nu⟩ := (tn u).mp hu
    rw [h0 x h n] at q z
    rw [h0 u hu nu] at z
    rw [h1 x h n, h1 u hu nu] at y
    have w := ccs x h n
    have wu := ccs u hu nu
    have a := d2_e (show os < cs by omega) (o u)
    have b := d2_e (show os < cs by omega) (c x)
    show d2 os cs (o u) = d2 os cs (c x) + 1
    by_cases xt : x = t
    · rw [if_pos xt] at q z y
      by_cases ut : u = t
      · rw [if_pos ut] at y
        omega
      · rw [if_neg ut] at z y
        have f := ns u hs hu q z y
        subst xt
        omega
    · rw [if_neg xt] at q z y
      by_cases ut : u = t
      · rw [if_pos ut] at z y
        have f := n2 x h q z y
        subst ut
        omega
      · rw [if_neg ut] at z y
        have f := S.nxt x u h hu q z y
        omega
  · obtain ⟨h, n⟩ := (tn x).mp h
    rw [h0 x h n] at q z
    rw [h1 x h n] at z
    have w := ccs x h n
    have b := d2_e (show os < cs by omega) (c x)
    show d2 os cs (c (L' 0 x)) = d2 os cs (c x) + 1
    rw [h0 x h n]
    by_cases y : x = t
    · rw [if_pos y] at q z ⊢
      rw [if_pos y, e2 _ (by omega) (by omega) nps] at z
      have f := lss q z
      have a := d2_e (show os < cs by omega) (c (L 0 s))
      subst y
      omega
    · rw [if_neg y] at q z ⊢
      obtain ⟨hp, np⟩ := par x h y q
      rw [if_neg y, e2 _ (by have := hp.1; omega) (by have := hp.1; omega) np] at z
      have f := S.lst x h q z
      have wp := ccs _ hp np
      have a := d2_e (show os < cs by omega) (c (L 0 x))
      omega
  · obtain ⟨h, n⟩ := (tn x).mp h
    obtain ⟨hy, ny⟩ := (tn y).mp hy
    have w := ccs x h n
    have wy := ccs y hy ny
    have a := d2_e (show os < cs by omega) (o x)
    have b := d2_e (show os < cs by omega) (o y)
    have q : d2 os cs (o x) = d2 os cs (o y) := q
    exact S.inj x y h hy (by omega)
  · obtain ⟨h, n⟩ := (tn x).mp h
    obtain ⟨hy, ny⟩ := (tn y).mp hy
    have w := ccs x h n
    have wy := ccs y hy ny
    have a := d2_e (show os < cs by omega) (c x)
    have b := d2_e (show os < cs by omega) (c y)
    have q : d2 os cs (c x) = d2 os cs (c y) := q
    exact S.jnj x y h hy x32 y32 (by omega)
  · have fin : ∀ k : Int, 0 ≤ k → k < m → k ≠ os → k ≠ cs → d2 os cs k = i → ∃ x : Int, Tn L' x ∧ (d2 os cs (o x) = i ∨ (d2 os cs (c x) = i ∧ 32 ≤ x)) := fun k k1 k2 k3 k4 k5 => by
      obtain ⟨x, hx, hz⟩ := S.cov k k1 k2
      have n : x ≠ s := fun e => by subst e; omega
      refine ⟨x, (tn x).mpr ⟨hx, n⟩, ?_⟩
      rcases hz with e | ⟨e, e3⟩
      · exact Or.inl (by rw [e]; exact k5)
      · exact Or.inr ⟨by rw [e]; exact k5, e3⟩
    by_cases z : i < os
    · have a := d2_e (show os < cs by omega) i
      exact fin i i1 (by omega) (by omega) (by omega) (by omega)
    · by_cases z2 : i + 1 < cs
      · have a := d2_e (show os < cs by omega) (i + 1)
        exact fin (i + 1) (by omega) (by omega) (by omega) (by omega) (by omega)
      · have a := d2_e (show os < cs by omega) (i + 2)
        exact fin (i + 2) (by omega) (by omega) (by omega) (by omega) (by omega)
  · rw [e2 47 (by omega) (by omega) (by omega)] at q
    have := S.emp q
    omega
  · rw [e5 _ (by omega) (by omega)]
    exact S.axs x x1 x2
end SD
