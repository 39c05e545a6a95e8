/-! THE PLAN'S ORDER IS THE ORDER OF THE SIGNS -/
theorem tnI {L : Mem} {x : Int} : InT L x ↔ Tn L x := by
  constructor
  · intro h
    have a := h.1.1
    have b := h.1.2
    have d := h.2
    exact ⟨a, by omega, d⟩
  · intro h
    exact ⟨⟨h.1, Or.inl h.2.1⟩, h.2.2⟩
theorem kid9 {L : Mem} (W : Wf L (-1)) (F : Fu L) {x : Int} (hx : InT L x) (z : isZ x) : InT L (mbrF L x 0) ∧ L 0 (mbrF L x 0) = x ∧ 0 < L 2 x := by
  have b := hx.rg
  have x0 : L 0 x ≠ -1 := by have := hx.1.2; omega
  have f2 := ((F x b.1 b.2).2 x0).2 z.1
  obtain ⟨m1, m2, m3⟩ := mbrF_get W.mb (h := x) (i := 0) (by omega) ⟨by omega, by omega⟩
  exact ⟨InT.kid W z m1 m2, m2, by omega⟩
section OS
variable {L P : Mem} {m : Int} {Q o c : Int → Int} {rk : Int → Nat}
theorem Sg.nxl (S : Sg L m Q o c) (W : Wf L (-1)) (K : RK L rk) : ∀ (d : Nat) (x : Int), 17 - rk x ≤ d → InT L x → NXT L x ≠ -1 → InT L (NXT L x) ∧ c x < o (NXT L x)
  | 0, x, h, _, _ => by have := K.1 x; omega
  | d + 1, x, h, hx, hn => by
    have b := hx.rg
    have tx := tnI.mp hx
    have e := NXT_e W b
    by_cases z : isZ (L 0 x)
    · have hs := hx.par W z
      have ts := tnI.mp hs
      have lt := K.2 x b.1 b.2 z.1 z.2
      have z1 := z.1
      have z2 := z.2
      have rg := W.mb.rng x (by omega) (by omega) (by omega)
      rw [if_pos z] at e
      by_cases y : L 1 x + 1 < L 2 (L 0 x)
      · obtain ⟨m1, m2, m3⟩ := mbrF_get W.mb (h := L 0 x) (i := L 1 x + 1) (by omega) ⟨by omega, y⟩
        have hk := InT.kid W z m1 m2
        rw [if_pos y] at e
        have q := S.nxt x _ tx (tnI.mp hk) (by omega) m2 m3
        rw [e]
        exact ⟨hk, by omega⟩
      · rw [if_neg y] at e
        rw [e] at hn ⊢
        have ih := S.nxl W K d (L 0 x) (by omega) hs hn
        have q := S.lst x tx (by omega) (by omega)
        exact ⟨ih.1, by omega⟩
    · rw [if_neg z] at e
      exact absurd e hn
theorem Sg.sul (S : Sg L m Q o c) (W : Wf L (-1)) (F : Fu L) (K : RK L rk) {x : Int} (hx : InT L x) (hs : suc L x ≠ -1) : o x < o (suc L x) := by
  have tx := tnI.mp hx
  have r := S.rng x tx
  unfold suc at hs ⊢
  by_cases z : isZ x
  · rw [if_pos z]
    have b := hx.rg
    obtain ⟨k1, k2, k3⟩ := kid9 W F hx z
    obtain ⟨m1, m2, m3⟩ := mbrF_get W.mb (h := x) (i := 0) (by omega) ⟨by omega, k3⟩
    have q := S.fst _ (tnI.mp k1) (by have := z.2; omega) m3
    rw [k2] at q
    omega
  · rw [if_neg z] at hs ⊢
    have q := S.nxl W K 17 x (by omega) hx hs
    omega
theorem Sg.inc (S : Sg L m Q o c) (W : Wf L (-1)) (F : Fu L) (K : RK L rk) (O : Ord L P) : ∀ (d : Nat) (k : Int), 0 ≤ k → k + d + 1 < P 0 9 → o (P 2 k) < o (P 2 (k + d + 1))
  | 0, k, h1, h2 => by
    have x := O.rng k h1 (by omega)
    have y := O.rng (k + 1) (by omega) (by omega)
    have e := O.ch k h1 (by omega)
    have b := y.rg
    have := S.sul W F K x (by omega)
    rw [show k + ((0 : Nat) : Int) + 1 = k + 1 by omega, e]
    exact this
  | d + 1, k, h1, h2 => by
    have ih := S.inc W F K O d k h1 (by omega)
    have x := O.rng (k + d + 1) (by omega) (by omega)
    have y := O.rng (k + d + 1 + 1) (by omega) (by omega)
    have e := O.ch (k + d + 1) (by omega) (by omega)
    have b := y.rg
    have := S.sul W F K x (by omega)
    rw [show k + ((d + 1 : Nat) : Int) + 1 = k + d + 1 + 1 by omega, e]
    omega
/-- between two neighbours in the plan's order lie ends only -/
theorem Sg.gap (S : Sg L m Q o c) (W : Wf L (-1)) (F : Fu L) (K : RK L rk) (O : Ord L P) {k : Int} (k1 : 0 ≤ k) (k2 : k < P 0 9) {i : Int} (i1 : o (P 2 k) < i) (i2 : (k + 1 < P 0 9 → i < o (P 2 (k + 1))) ∧ i < m) : Q (3 * i) = 4 := by
  have r := S.rng _ (tnI.mp (O.rng k k1 k2))
  obtain ⟨y, hy, hz⟩ := S.cov i (by omega) i2.2
  rcases hz with e | ⟨e, e32⟩
  · exfalso
    obtain ⟨l, l1, l2, l3⟩ := O.all y (tnI.mpr hy)
    rw [← l3] at e
    rcases Int.lt_trichotomy l k with q | q | q
    · have := S.inc W F K O (k - l - 1).toNat l l1 (by omega)
      rw [show l + ((k - l - 1).toNat : Int) + 1 = k by omega] at this
      omega
    · rw [q] at e; omega
    · by_cases q1 : l = k + 1
      · have := i2.1 (by omega)
        rw [q1] at e
        omega
      · have := S.inc W F K O (l - k - 2).toNat (k + 1) (by omega) (by omega)
        rw [show k + 1 + ((l - k - 2).toNat : Int) + 1 = l by omega] at this
        have := i2.1 (by omega)
        omega
  · have := (S.spl y hy e32).2.1
    rw [e] at this
    exact this
theorem smG_gap {g : Int → Int} (a : Nat) : ∀ d : Nat, (∀ i : Int, a ≤ i → i < a + d → g i = 0) → smG g (a + d) = smG g a
  | 0, _ => rfl
  | d + 1, h => by
    have ih := smG_gap a d (fun i h1 h2 => h i h1 (by omega))
    rw [show a + (d + 1) = (a + d) + 1 by omega, smG, ih, h ((a + d : Nat) : Int) (by omega) (by omega)]
    omega
theorem smG_gapI {g : Int → Int} {a b : Int} (h0 : 0 ≤ a ∧ a ≤ b) (h : ∀ i : Int, a ≤ i → i < b → g i = 0) : smG g b.toNat = smG g a.toNat := by
  have := smG_gap (g := g) a.toNat (b - a).toNat (fun i h1 h2 => h i (by omega) (by omega))
  rw [show a.toNat + (b - a).toNat = b.toNat by omega] at this
  exact this
theorem smG_sI {g : Int → Int} {a : Int} (h0 : 0 ≤ a) : smG g (a + 1).toNat = smG g a.toNat + g a := by
  obtain ⟨n, rfl⟩ := nat_of h0
  rw [show ((n : Int) + 1).toNat = n + 1 by omega, show (n : Int).toNat = n by omega]
  rfl
theorem Sg.zero (S : Sg L m Q o c) (W : Wf L (-1)) (O : Ord L P) (h : 0 < P 0 9) : o (P 2 0) = 0 := by
  have r := O.root h
  have x := O.rng 0 (by omega) h
  obtain ⟨m1, m2, m3⟩ := mbrF_get W.mb (h := 47) (i := 0) (by omega) ⟨by omega, by omega⟩
  rw [← r.2] at m2
  exact (S.rot _ (tnI.mp x) m2).1
/-- a sum along the plan's order is the sum along the signs -/
theorem Sg.sums (S : Sg L m Q o c) (W : Wf L (-1)) (F : Fu L) (K : RK L rk) (O : Ord L P) {f : Int → Int} (f4 : f 4 = 0) : ∀ k : Nat, (k : Int) < P 0 9 → smG (fun l => f (Q (3 * o (P 2 l)))) k = smG (fun i => f (Q (3 * i))) (o (P 2 k)).toNat
  | 0, h => by
    have z := S.zero W O h
    show 0 = smG _ (o (P 2 0)).toNat
    rw [z]
    rfl
  | k + 1, h => by
    have ih := S.sums W F K O f4 k (by omega)
    have x := S.rng _ (tnI.mp (O.rng k (by omega) (by omega)))
    have y := S.rng _ (tnI.mp (O.rng (k + 1) (by omega) (by omega)))
    have i := S.inc W F K O 0 k (by omega) (by omega)
    rw [show (k : Int) + ((0 : Nat) : Int) + 1 = k + 1 by omega] at i
    have g := smG_gapI (g := fun i => f (Q (3 * i))) (a := o (P 2 k) + 1) (b := o (P 2 ((k : Int) + 1))) ⟨by omega, by omega⟩ (fun j j1 j2 => by
      show f (Q (3 * j)) = 0
      rw [S.gap W F K O (k := k) (by omega) (by omega) (i := j) (by omega) ⟨fun _ => j2, by omega⟩]
      exact f4)
    rw [show (((k + 1 : Nat)) : Int) = (k : Int) + 1 by omega, g, smG_sI x.1, ← ih]
    rfl
theorem Sg.sumA (S : Sg L m Q o c) (W : Wf L (-1)) (F : Fu L) (K : RK L rk) (O : Ord L P) {f : Int → Int} (f4 : f 4 = 0) : smG (fun l => f (Q (3 * o (P 2 l)))) (P 0 9).toNat = smG (fun i => f (Q (3 * i))) m.toNat := by
  have n0 := O.n0
  by_cases h : P 0 9 = 0
  · have e := S.emp (O.none h)
    rw [h, e]
    rfl
  · have s := S.sums W F K O f4 (P 0 9 - 1).toNat (by omega)
    have e : ((P 0 9 - 1).toNat : Int) = P 0 9 - 1 := by omega
    have x := S.rng _ (tnI.mp (O.rng (P 0 9 - 1) (by omega) (by omega)))
    have g := smG_gapI (g := fun i => f (Q (3 * i))) (a := o (P 2 (P 0 9 - 1)) + 1) (b := m) ⟨by omega, by omega⟩ (fun j j1 j2 => by
      show f (Q (3 * j)) = 0
      rw [S.gap W F K O (k := P 0 9 - 1) (by omega) (by omega) (i := j) (by omega) ⟨fun _ => by omega, by omega⟩]
      exact f4)
    have t := smG_sI (g := fun l => f (Q (3 * o (P 2 l)))) (a := P 0 9 - 1) (by omega)
    rw [show P 0 9 - 1 + 1 = P 0 9 by omega] at t
    rw [t, s, g, smG_sI x.1, e]
end OS
theorem jGG_sm (Q : Int → Int) : ∀ n : Nat, jGG Q n = smG (fun i => if Q (3 * i) = 1 then 1 else 0) n
  | 0 => rfl
  | n + 1 => by unfold jGG smG; rw [jGG_sm Q n]
theorem jZG_sm (Q : Int → Int) : ∀ n : Nat, jZG Q n = smG (fun i => if Q (3 * i) = 2 ∨ Q (3 * i) = 3 then 1 else 0) n
  | 0 => rfl
  | n + 1 => by unfold jZG smG; rw [jZG_sm Q n]
