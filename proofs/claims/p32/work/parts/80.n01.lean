/-! THE MATHEMATICS OF p32: the row of signs is the class's tree, walked around. o names where a node begins, c where it ends -/
abbrev Tn (L : Mem) (x : Int) : Prop := (16 ≤ x ∧ x < 47) ∧ L 0 x ≠ -1 ∧ L 0 x ≠ 48
def Sg (L : Mem) (m : Int) (Q : Int → Int) (o c : Int → Int) : Prop :=
  (∀ x : Int, Tn L x → 0 ≤ o x ∧ o x ≤ c x ∧ c x < m) ∧
  (∀ x : Int, Tn L x → L 0 x = 47 → o x = 0 ∧ c x = m - 1) ∧
  (∀ x : Int, Tn L x → x < 32 → c x = o x ∧ Q (3 * o x) = 1 ∧ Q (3 * o x + 2) = x - 16) ∧
  (∀ x : Int, Tn L x → 32 ≤ x → Q (3 * o x) = L 5 (x - 32) + 2 ∧ Q (3 * c x) = 4 ∧ o x < c x) ∧
  (∀ x : Int, Tn L x → L 0 x ≠ 47 → Q (3 * o x + 1) = L 3 x) ∧
  (∀ t : Int, Tn L t → L 0 t ≠ 47 → L 1 t = 0 → o t = o (L 0 t) + 1) ∧
  (∀ t u : Int, Tn L t → Tn L u → L 0 t ≠ 47 → L 0 u = L 0 t → L 1 u = L 1 t + 1 → o u = c t + 1) ∧
  (∀ t : Int, Tn L t → L 0 t ≠ 47 → L 1 t + 1 = L 2 (L 0 t) → c (L 0 t) = c t + 1) ∧
  (∀ x y : Int, Tn L x → Tn L y → o x = o y → x = y) ∧
  (∀ x y : Int, Tn L x → Tn L y → 32 ≤ x → 32 ≤ y → c x = c y → x = y) ∧
  (∀ i : Int, 0 ≤ i → i < m → ∃ x : Int, Tn L x ∧ (o x = i ∨ (c x = i ∧ 32 ≤ x))) ∧
  (L 2 47 = 0 → m = 0) ∧
  (∀ x : Int, 32 ≤ x → x < 47 → L 5 (x - 32) = 0 ∨ L 5 (x - 32) = 1) ∧
  (0 ≤ m)
theorem Sg.rng {L : Mem} {m : Int} {Q : Int → Int} {o c : Int → Int} (h9 : Sg L m Q o c) : ∀ x : Int, Tn L x → 0 ≤ o x ∧ o x ≤ c x ∧ c x < m := h9.1
theorem Sg.rot {L : Mem} {m : Int} {Q : Int → Int} {o c : Int → Int} (h9 : Sg L m Q o c) : ∀ x : Int, Tn L x → L 0 x = 47 → o x = 0 ∧ c x = m - 1 := h9.2.1
theorem Sg.lef {L : Mem} {m : Int} {Q : Int → Int} {o c : Int → Int} (h9 : Sg L m Q o c) : ∀ x : Int, Tn L x → x < 32 → c x = o x ∧ Q (3 * o x) = 1 ∧ Q (3 * o x + 2) = x - 16 := h9.2.2.1
theorem Sg.spl {L : Mem} {m : Int} {Q : Int → Int} {o c : Int → Int} (h9 : Sg L m Q o c) : ∀ x : Int, Tn L x → 32 ≤ x → Q (3 * o x) = L 5 (x - 32) + 2 ∧ Q (3 * c x) = 4 ∧ o x < c x := h9.2.2.2.1
theorem Sg.wgt {L : Mem} {m : Int} {Q : Int → Int} {o c : Int → Int} (h9 : Sg L m Q o c) : ∀ x : Int, Tn L x → L 0 x ≠ 47 → Q (3 * o x + 1) = L 3 x := h9.2.2.2.2.1
theorem Sg.fst {L : Mem} {m : Int} {Q : Int → Int} {o c : Int → Int} (h9 : Sg L m Q o c) : ∀ t : Int, Tn L t → L 0 t ≠ 47 → L 1 t = 0 → o t = o (L 0 t) + 1 := h9.2.2.2.2.2.1
theorem Sg.nxt {L : Mem} {m : Int} {Q : Int → Int} {o c : Int → Int} (h9 : Sg L m Q o c) : ∀ t u : Int, Tn L t → Tn L u → L 0 t ≠ 47 → L 0 u = L 0 t → L 1 u = L 1 t + 1 → o u = c t + 1 := h9.2.2.2.2.2.2.1
theorem Sg.lst {L : Mem} {m : Int} {Q : Int → Int} {o c : Int → Int} (h9 : Sg L m Q o c) : ∀ t : Int, Tn L t → L 0 t ≠ 47 → L 1 t + 1 = L 2 (L 0 t) → c (L 0 t) = c t + 1 := h9.2.2.2.2.2.2.2.1
theorem Sg.inj {L : Mem} {m : Int} {Q : Int → Int} {o c : Int → Int} (h9 : Sg L m Q o c) : ∀ x y : Int, Tn L x → Tn L y → o x = o y → x = y := h9.2.2.2.2.2.2.2.2.1
theorem Sg.jnj {L : Mem} {m : Int} {Q : Int → Int} {o c : Int → Int} (h9 : Sg L m Q o c) : ∀ x y : Int, Tn L x → Tn L y → 32 ≤ x → 32 ≤ y → c x = c y → x = y := h9.2.2.2.2.2.2.2.2.2.1
theorem Sg.cov {L : Mem} {m : Int} {Q : Int → Int} {o c : Int → Int} (h9 : Sg L m Q o c) : ∀ i : Int, 0 ≤ i → i < m → ∃ x : Int, Tn L x ∧ (o x = i ∨ (c x = i ∧ 32 ≤ x)) := h9.2.2.2.2.2.2.2.2.2.2.1
theorem Sg.emp {L : Mem} {m : Int} {Q : Int → Int} {o c : Int → Int} (h9 : Sg L m Q o c) : L 2 47 = 0 → m = 0 := h9.2.2.2.2.2.2.2.2.2.2.2.1
theorem Sg.axs {L : Mem} {m : Int} {Q : Int → Int} {o c : Int → Int} (h9 : Sg L m Q o c) : ∀ x : Int, 32 ≤ x → x < 47 → L 5 (x - 32) = 0 ∨ L 5 (x - 32) = 1 := h9.2.2.2.2.2.2.2.2.2.2.2.2.1
theorem Sg.nng {L : Mem} {m : Int} {Q : Int → Int} {o c : Int → Int} (h9 : Sg L m Q o c) : 0 ≤ m := h9.2.2.2.2.2.2.2.2.2.2.2.2.2
theorem Sg.mk {L : Mem} {m : Int} {Q : Int → Int} {o c : Int → Int} (h_rng : ∀ x : Int, Tn L x → 0 ≤ o x ∧ o x ≤ c x ∧ c x < m) (h_rot : ∀ x : Int, Tn L x → L 0 x = 47 → o x = 0 ∧ c x = m - 1) (h_lef : ∀ x : Int, Tn L x → x < 32 → c x = o x ∧ Q (3 * o x) = 1 ∧ Q (3 * o x + 2) = x - 16) (h_spl : ∀ x : Int, Tn L x → 32 ≤ x → Q (3 * o x) = L 5 (x - 32) + 2 ∧ Q (3 * c x) = 4 ∧ o x < c x) (h_wgt : ∀ x : Int, Tn L x → L 0 x ≠ 47 → Q (3 * o x + 1) = L 3 x) (h_fst : ∀ t : Int, Tn L t → L 0 t ≠ 47 → L 1 t = 0 → o t = o (L 0 t) + 1) (h_nxt : ∀ t u : Int, Tn L t → Tn L u → L 0 t ≠ 47 → L 0 u = L 0 t → L 1 u = L 1 t + 1 → o u = c t + 1) (h_lst : ∀ t : Int, Tn L t → L 0 t ≠ 47 → L 1 t + 1 = L 2 (L 0 t) → c (L 0 t) = c t + 1) (h_inj : ∀ x y : Int, Tn L x → Tn L y → o x = o y → x = y) (h_jnj : ∀ x y : Int, Tn L x → Tn L y → 32 ≤ x → 32 ≤ y → c x = c y → x = y) (h_cov : ∀ i : Int, 0 ≤ i → i < m → ∃ x : Int, Tn L x ∧ (o x = i ∨ (c x = i ∧ 32 ≤ x))) (h_emp : L 2 47 = 0 → m = 0) (h_axs : ∀ x : Int, 32 ≤ x → x < 47 → L 5 (x - 32) = 0 ∨ L 5 (x - 32) = 1) (h_nng : 0 ≤ m) : Sg L m Q o c := ⟨h_rng, h_rot, h_lef, h_spl, h_wgt, h_fst, h_nxt, h_lst, h_inj, h_jnj, h_cov, h_emp, h_axs, h_nng⟩
/-- what the row of a layout needs of the layout's tree -/
def Tw (L : Mem) : Prop :=
  (Mb L) ∧
  (∀ t : Int, Tn L t → L 0 t = 47 ∨ (32 ≤ L 0 t ∧ L 0 t < 47)) ∧
  (∀ t : Int, Tn L t → L 0 t ≠ 47 → Tn L (L 0 t)) ∧
  (∀ t : Int, 0 ≤ t → t < 49 → 32 ≤ L 0 t → L 0 t ≠ 48 → Tn L t)
theorem Tw.mb {L : Mem} (h9 : Tw L) : Mb L := h9.1
theorem Tw.hol {L : Mem} (h9 : Tw L) : ∀ t : Int, Tn L t → L 0 t = 47 ∨ (32 ≤ L 0 t ∧ L 0 t < 47) := h9.2.1
theorem Tw.par {L : Mem} (h9 : Tw L) : ∀ t : Int, Tn L t → L 0 t ≠ 47 → Tn L (L 0 t) := h9.2.2.1
theorem Tw.mem {L : Mem} (h9 : Tw L) : ∀ t : Int, 0 ≤ t → t < 49 → 32 ≤ L 0 t → L 0 t ≠ 48 → Tn L t := h9.2.2.2
theorem Tw.mk {L : Mem} (h_mb : Mb L) (h_hol : ∀ t : Int, Tn L t → L 0 t = 47 ∨ (32 ≤ L 0 t ∧ L 0 t < 47)) (h_par : ∀ t : Int, Tn L t → L 0 t ≠ 47 → Tn L (L 0 t)) (h_mem : ∀ t : Int, 0 ≤ t → t < 49 → 32 ≤ L 0 t → L 0 t ≠ 48 → Tn L t) : Tw L := ⟨h_mb, h_hol, h_par, h_mem⟩
theorem Wf.tw9 {L : Mem} {q : Int} (W : Wf L q) : Tw L := by
  have hol : ∀ t : Int, Tn L t → L 0 t = 47 ∨ (32 ≤ L 0 t ∧ L 0 t < 47) := fun t h => by
    have a := W.grp t
    have b := W.spl t
    have := h.1
    have := h.2
    omega
  refine Tw.mk W.mb hol (fun t h n => ?_) (fun t h1 h2 h3 h4 => ?_)
  · have h1 := hol t h
    have h2 := W.own t (by have := h.1; omega) (by have := h.1; omega) h.2.1 (by omega)
    have h3 := W.loo
    have h4 := W.spl (L 0 t) (by omega) (by omega)
    exact ⟨⟨by omega, by omega⟩, by omega, by omega⟩
  · have := W.mem ⟨h1, h2⟩ h3
    exact ⟨this, by omega, h4⟩
section SG
variable {L : Mem} {m : Int} {Q o c : Int → Int}
theorem Sg.sx (S : Sg L m Q o c) {x : Int} (h : Tn L x) (h32 : 32 ≤ x) : Q (3 * o x) = 2 ∨ Q (3 * o x) = 3 := by
  have a := S.spl x h h32
  have b := S.axs x h32 h.1.2
  omega
theorem Sg.n4 (S : Sg L m Q o c) {x : Int} (h : Tn L x) : Q (3 * o x) ≠ 4 := by
  by_cases h32 : 32 ≤ x
  · have := S.sx h h32; omega
  · have := (S.lef x h (by omega)).2.1; omega
/-- a node's end is no other's -/
theorem Sg.cc (S : Sg L m Q o c) {x y : Int} (hx : Tn L x) (hy : Tn L y) (e : c x = c y) : x = y := by
  by_cases a : 32 ≤ x <;> by_cases b : 32 ≤ y
  · exact S.jnj x y hx hy a b e
  · have p := S.spl x hx a
    have q := S.lef y hy (by omega)
    rw [e, q.1] at p
    omega
  · have p := S.spl y hy b
    have q := S.lef x hx (by omega)
    rw [← e, q.1] at p
    omega
  · have p := S.lef x hx (by omega)
    have q := S.lef y hy (by omega)
    exact S.inj x y hx hy (by omega)
/-- a split's end is no node's beginning -/
theorem Sg.co (S : Sg L m Q o c) {x y : Int} (hx : Tn L x) (h32 : 32 ≤ x) (hy : Tn L y) : c x ≠ o y := by
  intro e
  have p := S.spl x hx h32
  have q := S.n4 hy
  rw [e] at p
  omega
/-- a node that begins where another ends is that node, a group -/
theorem Sg.oc (S : Sg L m Q o c) {x y : Int} (hx : Tn L x) (hy : Tn L y) (e : c x = o y) : x = y := by
  by_cases a : 32 ≤ x
  · exact absurd e (S.co hx a hy)
  · have p := S.lef x hx (by omega)
    exact S.inj x y hx hy (by omega)
end SG
/-- the depth ahead of a sign -/
def eG (Q : Int → Int) : Nat → Int
  | 0 => 0
  | n + 1 => eG Q n + sgD (Q (3 * n))
def eI (Q : Int → Int) (i : Int) : Int := eG Q i.toNat
theorem eI_s {Q : Int → Int} {i : Int} (h : 0 ≤ i) : eI Q (i + 1) = eI Q i + sgD (Q (3 * i)) := by
  obtain ⟨n, rfl⟩ := nat_of h
  unfold eI
  rw [show ((n : Int) + 1).toNat = n + 1 by omega, show (n : Int).toNat = n by omega]
  rfl
theorem sgD_b (v : Int) : -1 ≤ sgD v ∧ sgD v ≤ 1 := by unfold sgD; (repeat' split) <;> omega
theorem eG_b (Q : Int → Int) : ∀ n : Nat, -(n : Int) ≤ eG Q n ∧ eG Q n ≤ n
  | 0 => by simp [eG]
  | n + 1 => by
    have := eG_b Q n
    have := sgD_b (Q (3 * n))
    unfold eG
    omega
theorem eI_b {Q : Int → Int} {i : Int} (h : 0 ≤ i) : -i ≤ eI Q i ∧ eI Q i ≤ i := by
  have := eG_b Q i.toNat
  unfold eI
  omega
section SE
variable {L : Mem} {m : Int} {Q o c : Int → Int}
/-- the k-th child begins behind its split, and ends ahead of its end -/
theorem Sg.kidO (T : Tw L) (S : Sg L m Q o c) {x : Int} (hx : Tn L x) (h32 : 32 ≤ x) : ∀ k : Nat, (k : Int) < L 2 x → o x + 1 + k ≤ o (mbrF L x k) ∧ Tn L (mbrF L x k) ∧ L 0 (mbrF L x k) = x ∧ L 1 (mbrF L x k) = k
  | 0, hk => by
    obtain ⟨g1, g2, g3⟩ := mbrF_get T.mb (h := x) (i := (0 : Nat)) ⟨by omega, by have := hx.1; omega⟩ ⟨by omega, hk⟩
    have t := T.mem _ g1.1 g1.2 (by rw [g2]; exact h32) (by rw [g2]; have := hx.1; omega)
    have f := S.fst _ t (by rw [g2]; have := hx.1; omega) (by rw [g3]; rfl)
    rw [g2] at f
    exact ⟨by omega, t, g2, g3⟩
  | k + 1, hk => by
    obtain ⟨i1, i2, i3, i4⟩ := Sg.kidO T S hx h32 k (by omega)
    obtain ⟨g1, g2, g3⟩ := mbrF_get T.mb (h := x) (i := ((k + 1 : Nat) : Int)) ⟨by omega, by have := hx.1; omega⟩ ⟨by omega, hk⟩
    have t := T.mem _ g1.1 g1.2 (by rw [g2]; exact h32) (by rw [g2]; have := hx.1; omega)
    have f := S.nxt (mbrF L x k) (mbrF L x ((k + 1 : Nat) : Int)) i2 t (by rw [i3]; have := hx.1; omega) (by rw [g2, i3]) (by rw [g3, i4]; omega)
    have r := S.rng _ i2
    exact ⟨by omega, t, g2, g3⟩
theorem Sg.kidC (T : Tw L) (S : Sg L m Q o c) {x : Int} (hx : Tn L x) (h32 : 32 ≤ x) : ∀ (d : Nat) (k : Nat), (k : Int) + 1 + d = L 2 x → c (mbrF L x k) + 1 + d ≤ c x
  | 0, k, hk => by
    obtain ⟨i1, i2, i3, i4⟩ := Sg.kidO T S hx h32 k (by omega)
    have f := S.lst _ i2 (by rw [i3]; have := hx.1; omega) (by rw [i3, i4]; omega)
    rw [i3] at f
    omega
  | d + 1, k, hk => by
    obtain ⟨i1, i2, i3, i4⟩ := Sg.kidO T S hx h32 k (by omega)
    obtain ⟨j1, j2, j3, j4⟩ := Sg.kidO T S hx h32 (k + 1) (by omega)
    have h := Sg.kidC T S hx h32 d (k + 1) (by omega)
    have f := S.nxt _ _ i2 j2 (by rw [i3]; have := hx.1; omega) (by rw [j3, i3]) (by rw [j4, i4]; omega)
    have r := S.rng _ j2
    omega
/-- behind a node the depth is as ahead of it, and within it is more -/
theorem Sg.dep (T : Tw L) (S : Sg L m Q o c) (F : ∀ x : Int, Tn L x → 32 ≤ x → 1 ≤ L 2 x) : ∀ (n : Nat) (x : Int), Tn L x → (c x - o x) ≤ n → eI Q (c x + 1) = eI Q (o x) ∧ ∀ i : Int, o x < i → i ≤ c x → eI Q (o x) < eI Q i := by
  intro n
  induction n with
  | zero =>
    intro x hx hn
    have r := S.rng x hx
    by_cases h32 : 32 ≤ x
    · have := S.spl x hx h32; omega
    · have l := S.lef x hx (by omega)
      have e := eI_s (Q := Q) (i := o x) r.1
      rw [l.2.1] at e
      refine ⟨?_, fun i i1 i2 => by omega⟩
      rw [l.1, e]
      simp [sgD]
  | succ n ih =>
    intro x hx hn
    have r := S.rng x hx
    by_cases h32 : 32 ≤ x
    · have s := S.spl x hx h32
      have sx := S.sx hx h32
      have e0 := eI_s (Q := Q) (i := o x) r.1
      have e0' : sgD (Q (3 * o x)) = 1 := by unfold sgD; rcases sx with q | q <;> rw [q] <;> decide
      rw [e0'] at e0
      have h1 := F x hx h32
      have kids : ∀ k : Nat, (k : Int) < L 2 x → (eI Q (o (mbrF L x k)) = eI Q (o x) + 1 ∧ ∀ i : Int, o x < i → i ≤ o (mbrF L x k) → eI Q (o x) < eI Q i) ∧ (eI Q (c (mbrF L x k) + 1) = eI Q (o x) + 1 ∧ ∀ i : Int, o x < i → i ≤ c (mbrF L x k) + 1 → eI Q (o x) < eI Q i) := by
        intro k
        induction k with
        | zero =>
          intro hk
          obtain ⟨i1, i2, i3, i4⟩ := Sg.kidO T S hx h32 0 hk
          have cc := Sg.kidC T S hx h32 (L 2 x - 1).toNat 0 (by omega)
          have f := S.fst _ i2 (by rw [i3]; have := hx.1; omega) (by rw [i4]; rfl)
          rw [i3] at f
          obtain ⟨a1, a2⟩ := ih _ i2 (by omega)
          have e1 : eI Q (o (mbrF L x ((0 : Nat) : Int))) = eI Q (o x) + 1 := by rw [f]; exact e0
          have low : ∀ i : Int, o x < i → i ≤ o (mbrF L x ((0 : Nat) : Int)) → eI Q (o x) < eI Q i := fun i q1 q2 => by
            have : i = o (mbrF L x ((0 : Nat) : Int)) := by omega
            rw [this]; omega
          refine ⟨⟨e1, low⟩, by omega, fun i q1 q2 => ?_⟩
          by_cases c1 : i ≤ o (mbrF L x ((0 : Nat) : Int))
          · exact low i q1 c1
          · by_cases c2 : i ≤ c (mbrF L x ((0 : Nat) : Int))
            · have := a2 i (by omega) c2; omega
            · have : i = c (mbrF L x ((0 : Nat) : Int)) + 1 := by omega
              rw [this]; omega
        | succ k ihk =>
          intro hk
          obtain ⟨⟨b1, b2⟩, b3, b4⟩ := ihk (by omega)
          obtain ⟨i1, i2, i3, i4⟩ := Sg.kidO T S hx h32 k (by omega)
          obtain ⟨j1, j2, j3, j4⟩ := Sg.kidO T S hx h32 (k + 1) hk
          have cc := Sg.kidC T S hx h32 (L 2 x - 1 - (k + 1 : Nat)).toNat (k + 1) (by omega)
          have f := S.nxt _ _ i2 j2 (by rw [i3]; have := hx.1; omega) (by rw [j3, i3]) (by rw [j4, i4]; omega)
          have r2 := S.rng _ i2
          obtain ⟨a1, a2⟩ := ih _ j2 (by omega)
          have e1 : eI Q (o (mbrF L x ((k + 1 : Nat) : Int))) = eI Q (o x) + 1 := by rw [f]; exact b3
          have low : ∀ i : Int, o x < i → i ≤ o (mbrF L x ((k + 1 : Nat) : Int)) → eI Q (o x) < eI Q i := fun i q1 q2 => b4 i q1 (by omega)
          refine ⟨⟨e1, low⟩, by omega, fun i q1 q2 => ?_⟩
          by_cases c1 : i ≤ o (mbrF L x ((k + 1 : Nat) : Int))
          · exact low i q1 c1
          · by_cases c2 : i ≤ c (mbrF L x ((k + 1 : Nat) : Int))
            · have := a2 i (by omega) c2; omega
            · have : i = c (mbrF L x ((k + 1 : Nat) : Int)) + 1 := by omega
              rw [this]; omega
      obtain ⟨i1, i2, i3, i4⟩ := Sg.kidO T S hx h32 (L 2 x - 1).toNat (by omega)
      obtain ⟨-, b3, b4⟩ := kids (L 2 x - 1).toNat (by omega)
      have f := S.lst _ i2 (by rw [i3]; have := hx.1; omega) (by rw [i3, i4]; omega)
      rw [i3] at f
      rw [← f] at b3 b4
      have e9 := eI_s (Q := Q) (i := c x) (by omega)
      have e9' : sgD (Q (3 * c x)) = -1 := by rw [s.2.1]; rfl
      refine ⟨by omega, b4⟩
    · have l := S.lef x hx (by omega)
      have e := eI_s (Q := Q) (i := o x) r.1
      rw [l.2.1] at e
      refine ⟨?_, fun i i1 i2 => by omega⟩
      rw [l.1, e]
      simp [sgD]
end SE
