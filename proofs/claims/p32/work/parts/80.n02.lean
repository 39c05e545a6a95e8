/-! what the law's walks find in the row -/
section SF
variable {L : Mem} {m : Int} {Q o c : Int → Int}
theorem Sg.endP (T : Tw L) (S : Sg L m Q o c) (F : ∀ x : Int, Tn L x → 32 ≤ x → 1 ≤ L 2 x) (hm : m ≤ 16) {x : Int} (hx : Tn L x) (h32 : 32 ≤ x) : EndP Q (o x) (c x) := by
  have r := S.rng x hx
  have s := S.spl x hx h32
  have sx := S.sx hx h32
  obtain ⟨d1, d2⟩ := S.dep T F (c x - o x).toNat x hx (by omega)
  have e0 := eI_s (Q := Q) (i := o x) r.1
  have e0' : sgD (Q (3 * o x)) = 1 := by unfold sgD; rcases sx with q | q <;> rw [q] <;> decide
  rw [e0'] at e0
  have bo := eI_b (Q := Q) (i := o x) r.1
  refine ⟨⟨r.1, s.2.2, by omega⟩, fun i => eI Q (i + 1) - eI Q (o x), by show eI Q (o x + 1) - eI Q (o x) = 1; omega, fun i h1 h2 => ⟨?_, ?_⟩, ?_, fun i h1 h2 => ?_⟩
  · have := d2 (i + 1) (by omega) (by omega)
    show 0 < eI Q (i + 1) - eI Q (o x)
    omega
  · have := eI_s (Q := Q) (i := i + 1) (by omega)
    show eI Q (i + 1 + 1) - eI Q (o x) = eI Q (i + 1) - eI Q (o x) + sgD (Q (3 * (i + 1)))
    omega
  · show eI Q (c x + 1) - eI Q (o x) ≤ 0
    omega
  · have := eI_b (Q := Q) (i := i + 1) (by omega)
    show -100 ≤ eI Q (i + 1) - eI Q (o x) ∧ eI Q (i + 1) - eI Q (o x) ≤ 100
    omega
theorem Sg.behP (T : Tw L) (S : Sg L m Q o c) (F : ∀ x : Int, Tn L x → 32 ≤ x → 1 ≤ L 2 x) (hm : m ≤ 16) {x : Int} (hx : Tn L x) : BehP Q (o x) (c x + 1) := by
  have r := S.rng x hx
  refine ⟨⟨r.1, by omega⟩, ?_⟩
  by_cases h32 : 32 ≤ x
  · have sx := S.sx hx h32
    refine Or.inr ⟨by omega, ?_⟩
    rw [show c x + 1 - 1 = c x by omega]
    exact S.endP T F hm hx h32
  · have l := S.lef x hx (by omega)
    exact Or.inl ⟨l.2.1, by omega⟩
/-- where the children of a split begin, and its end behind them -/
def kpO (L : Mem) (o c : Int → Int) (x : Int) : Int → Int := fun k => if k < L 2 x then o (mbrF L x k) else c x
theorem Sg.kidP (T : Tw L) (S : Sg L m Q o c) (F : ∀ x : Int, Tn L x → 32 ≤ x → 1 ≤ L 2 x) (hm : m ≤ 16) {x : Int} (hx : Tn L x) (h32 : 32 ≤ x) : KidP Q (o x) (L 2 x).toNat (kpO L o c x) ∧ Q (3 * kpO L o c x (L 2 x).toNat) = 4 ∧ (L 2 x).toNat ≤ 16 := by
  have r := S.rng x hx
  have s := S.spl x hx h32
  have h1 := F x hx h32
  have cc := Sg.kidC T S hx h32 (L 2 x - 1).toNat 0 (by omega)
  obtain ⟨z1, z2, z3, z4⟩ := Sg.kidO T S hx h32 0 (by omega)
  have rz := S.rng _ z2
  have lastp : kpO L o c x (L 2 x).toNat = c x := by
    unfold kpO
    rw [if_neg (by omega)]
  refine ⟨⟨?_, fun k k1 k2 => ?_, fun k k1 k2 => ?_⟩, by rw [lastp]; exact s.2.1, by omega⟩
  · unfold kpO
    rw [if_pos (by omega)]
    have f := S.fst _ z2 (by rw [z3]; have := hx.1; omega) (by rw [z4]; rfl)
    rw [z3] at f
    exact f
  · unfold kpO
    split
    · rename_i q
      obtain ⟨n, rfl⟩ := nat_of k1
      obtain ⟨i1, i2, i3, i4⟩ := Sg.kidO T S hx h32 n q
      have := S.rng _ i2
      omega
    · omega
  · obtain ⟨n, rfl⟩ := nat_of k1
    have kn : (n : Int) < L 2 x := by omega
    obtain ⟨i1, i2, i3, i4⟩ := Sg.kidO T S hx h32 n kn
    have b := S.behP T F hm i2
    have n4 := S.n4 i2
    have e1 : kpO L o c x n = o (mbrF L x n) := by
      unfold kpO
      rw [if_pos kn]
    have e2 : kpO L o c x ((n : Int) + 1) = c (mbrF L x n) + 1 := by
      unfold kpO
      by_cases q : (n : Int) + 1 < L 2 x
      · rw [if_pos q]
        obtain ⟨j1, j2, j3, j4⟩ := Sg.kidO T S hx h32 (n + 1) (by omega)
        exact S.nxt _ _ i2 j2 (by rw [i3]; have := hx.1; omega) (by rw [i3]; exact j3) (by rw [i4]; exact j4)
      · rw [if_neg q]
        have f := S.lst _ i2 (by rw [i3]; have := hx.1; omega) (by rw [i3, i4]; omega)
        rw [i3] at f
        exact f
    rw [e1, e2]
    exact ⟨n4, b⟩
theorem Sg.upP (T : Tw L) (S : Sg L m Q o c) (F : ∀ x : Int, Tn L x → 32 ≤ x → 1 ≤ L 2 x) (hm : m ≤ 16) {t : Int} (ht : Tn L t) (h0 : L 0 t ≠ 47) : UpP Q (o t) (o (L 0 t)) := by
  have hx := T.par t ht h0
  have hh := T.hol t ht
  have rt := S.rng t ht
  have h32 : 32 ≤ L 0 t := by omega
  have r := S.rng _ hx
  obtain ⟨d1, d2⟩ := S.dep T F (c (L 0 t) - o (L 0 t)).toNat _ hx (by omega)
  -- t is a child: it lies within
  have mr := T.mb.rng t (by omega) (by omega) ht.2.1
  obtain ⟨i1, i2, i3, i4⟩ := Sg.kidO T S hx h32 (L 1 t).toNat (by omega)
  have et : mbrF L (L 0 t) (L 1 t).toNat = t := by
    have := mbrF_hit T.mb (t := t) (h := L 0 t) ⟨by omega, by omega⟩ rfl ht.2.1
    rw [show (((L 1 t).toNat : Nat) : Int) = L 1 t by omega]
    exact this
  have cc := Sg.kidC T S hx h32 (L 2 (L 0 t) - 1 - (L 1 t).toNat).toNat (L 1 t).toNat (by omega)
  rw [et] at i1 cc
  -- the depth at t is one more
  have dt : eI Q (o t) = eI Q (o (L 0 t)) + 1 := by
    have key : ∀ k : Nat, (k : Int) < L 2 (L 0 t) → eI Q (o (mbrF L (L 0 t) k)) = eI Q (o (L 0 t)) + 1 := by
      intro k
      have e0 := eI_s (Q := Q) (i := o (L 0 t)) r.1
      have sx := S.sx hx h32
      have e0' : sgD (Q (3 * o (L 0 t))) = 1 := by unfold sgD; rcases sx with q | q <;> rw [q] <;> decide
      rw [e0'] at e0
      induction k with
      | zero =>
        intro hk
        obtain ⟨j1, j2, j3, j4⟩ := Sg.kidO T S hx h32 0 hk
        have f := S.fst _ j2 (by rw [j3]; omega) (by rw [j4]; rfl)
        rw [j3] at f
        rw [f]
        exact e0
      | succ k ih =>
        intro hk
        have ih := ih (by omega)
        obtain ⟨j1, j2, j3, j4⟩ := Sg.kidO T S hx h32 k (by omega)
        obtain ⟨l1, l2, l3, l4⟩ := Sg.kidO T S hx h32 (k + 1) hk
        have f := S.nxt _ _ j2 l2 (by rw [j3]; omega) (by rw [l3, j3]) (by rw [l4, j4]; omega)
        have rj := S.rng _ j2
        obtain ⟨a1, -⟩ := S.dep T F (c (mbrF L (L 0 t) k) - o (mbrF L (L 0 t) k)).toNat _ j2 (by omega)
        rw [f, a1, ih]
    have := key (L 1 t).toNat (by omega)
    rw [et] at this
    exact this
  refine ⟨⟨by omega, by omega, by omega⟩, fun j => 1 - (eI Q (o t) - eI Q j), by show 1 - (eI Q (o t) - eI Q (o t)) = 1; omega, fun j h1 h2 => ⟨?_, ?_⟩, Or.inr ?_, fun j h1 h2 => ?_⟩
  · have := d2 j h1 (by omega)
    show 0 < 1 - (eI Q (o t) - eI Q j)
    omega
  · have := eI_s (Q := Q) (i := j - 1) (by omega)
    rw [show j - 1 + 1 = j by omega] at this
    show 1 - (eI Q (o t) - eI Q (j - 1)) = 1 - (eI Q (o t) - eI Q j) - (if j - 1 < 0 then 0 else sgD (Q (3 * (j - 1))))
    rw [if_neg (by omega)]
    omega
  · show 1 - (eI Q (o t) - eI Q (o (L 0 t))) ≤ 0
    omega
  · have b1 := eI_b (Q := Q) (i := o t) (by omega)
    have b2 := eI_b (Q := Q) (i := j) (by omega)
    show -100 ≤ 1 - (eI Q (o t) - eI Q j) ∧ 1 - (eI Q (o t) - eI Q j) ≤ 100
    omega
theorem Sg.upR (S : Sg L m Q o c) {t : Int} (ht : Tn L t) (h0 : L 0 t = 47) : UpP Q (o t) (-1) := by
  have r := S.rot t ht h0
  rw [r.1]
  refine ⟨⟨by omega, by omega, by omega⟩, fun _ => 1, rfl, fun j h1 h2 => ⟨(by decide : (0 : Int) < 1), ?_⟩, Or.inl rfl, fun j h1 h2 => ⟨(by decide : (-100 : Int) ≤ 1), (by decide : (1 : Int) ≤ 100)⟩⟩
  show (1 : Int) = 1 - (if j - 1 < 0 then 0 else sgD (Q (3 * (j - 1))))
  rw [if_pos (by omega)]
  omega
end SF
theorem jSG_hit {Q : Int → Int} {gr t : Int} : ∀ n : Nat, 0 ≤ t → t < n → Q (3 * t) = 1 → Q (3 * t + 2) = gr → (∀ i : Int, 0 ≤ i → i < n → Q (3 * i) = 1 → Q (3 * i + 2) = gr → i = t) → jSG Q gr n = t
  | 0, h1, h2, _, _, _ => by omega
  | n + 1, h1, h2, h3, h4, hu => by
    unfold jSG
    split
    · rename_i q
      exact hu n (by omega) (by omega) q.1 q.2
    · rename_i q
      have : t ≠ n := by intro e; subst e; exact q ⟨h3, h4⟩
      exact jSG_hit n h1 (by omega) h3 h4 (fun i i1 i2 => hu i i1 (by omega))
theorem jSG_no {Q : Int → Int} {gr : Int} : ∀ n : Nat, (∀ i : Int, 0 ≤ i → i < n → Q (3 * i) = 1 → Q (3 * i + 2) ≠ gr) → jSG Q gr n = -1
  | 0, _ => rfl
  | n + 1, hu => by
    unfold jSG
    split
    · rename_i q
      exact absurd q.2 (hu n (by omega) (by omega) q.1)
    · exact jSG_no n (fun i i1 i2 => hu i i1 (by omega))
section SH
variable {L : Mem} {mu : Mem} {w : Nat} {o c : Int → Int}
theorem Sg.sgn (S : Sg L (mu w 3) (mu (w + 1)) o c) {x : Int} (hx : Tn L x) (h32 : x < 32) : jS mu w (x - 16) = o x := by
  have r := S.rng x hx
  have l := S.lef x hx h32
  have n := S.nng
  refine jSG_hit _ r.1 (by omega) l.2.1 l.2.2 (fun i i1 i2 q1 q2 => ?_)
  obtain ⟨y, hy, hz⟩ := S.cov i i1 (by omega)
  rcases hz with e | ⟨e, e32⟩
  · subst e
    by_cases y32 : 32 ≤ y
    · have := S.sx hy y32; omega
    · have ly := S.lef y hy (by omega)
      have : y = x := by omega
      rw [this]
  · have := (S.spl y hy e32).2.1
    rw [e] at this
    omega
theorem Sg.sgnN (S : Sg L (mu w 3) (mu (w + 1)) o c) {gr : Int} (h : ∀ x : Int, Tn L x → x < 32 → x - 16 ≠ gr) : jS mu w gr = -1 := by
  have n := S.nng
  refine jSG_no _ (fun i i1 i2 q1 q2 => ?_)
  obtain ⟨y, hy, hz⟩ := S.cov i i1 (by omega)
  rcases hz with e | ⟨e, e32⟩
  · subst e
    by_cases y32 : 32 ≤ y
    · have := S.sx hy y32; omega
    · have ly := S.lef y hy (by omega)
      exact h y hy (by omega) (by omega)
  · have := (S.spl y hy e32).2.1
    rw [e] at this
    omega
end SH
