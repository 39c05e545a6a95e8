/-! AT MOST ONE DOCKED GROUP COVERS A POINT -/
def cov (P : Mem) (pt : Int → Int) (g : Int) : Prop := ∀ ax : Int, (ax = 0 ∨ ax = 1) → P 5 (2 * g + ax) ≤ pt ax ∧ pt ax < P 5 (2 * g + ax) + P 6 (2 * g + ax)
def hol (L : Mem) : Nat → Int → Int
  | 0, g => g
  | i + 1, g => L 0 (hol L i g)
theorem hol_s (L : Mem) (g : Int) : ∀ i : Nat, hol L (i + 1) g = hol L i (L 0 g)
  | 0 => rfl
  | i + 1 => by
    show L 0 (hol L (i + 1) g) = L 0 (hol L i (L 0 g))
    rw [hol_s L g i]
section CV
variable {L P : Mem} {pt : Int → Int}
theorem covUp (W : Wf L (-1)) {s c : Int} (z : isZ s) (hc : 0 ≤ c ∧ c < 49) (h0 : L 0 c = s) (be : BE P L s) (sh0 : ∀ k : Int, 0 ≤ k → k < L 2 s → 0 ≤ shC P L s k) (shS : smG (shC P L s) (L 2 s).toNat ≤ cel L (P 6 (2 * s + L 5 (s - 32))) s) (h : cov P pt c) : cov P pt s := by
  have ax := W.axs s z.1 z.2
  have z1 := z.1
  have rg := W.mb.rng c hc.1 hc.2 (by omega)
  rw [h0] at rg
  have hit := mbrF_hit W.mb hc h0 (by omega)
  have b := be.1 (L 1 c) rg.1 rg.2
  rw [hit] at b
  obtain ⟨b1, b2, b3, b4, -⟩ := b
  intro a ha
  by_cases e : a = L 5 (s - 32)
  · subst e
    have hh := h _ ha
    rw [b1, b2] at hh
    have p1 : smG (fun j => shC P L s j + 1) (L 1 c).toNat = smG (shC P L s) (L 1 c).toNat + (L 1 c).toNat := by
      have one : ∀ m : Nat, smG (fun _ => (1 : Int)) m = m := by
        intro m
        induction m with
        | zero => rfl
        | succ m ih => unfold smG; rw [ih]; omega
      rw [smG_add, one]
    have p2 : smG (shC P L s) ((L 1 c).toNat + 1) ≤ smG (shC P L s) (L 2 s).toNat := smG_pre _ _ (by omega) (fun k h1 h2 => sh0 k h1 (by omega))
    have p3 : smG (shC P L s) ((L 1 c).toNat + 1) = smG (shC P L s) (L 1 c).toNat + shC P L s (L 1 c) := by
      show smG (shC P L s) (L 1 c).toNat + shC P L s ((L 1 c).toNat : Int) = _
      rw [show ((L 1 c).toNat : Int) = L 1 c by omega]
    have p4 : 0 ≤ smG (shC P L s) (L 1 c).toNat := by
      have := smG_ge (shC P L s) 0 (L 1 c).toNat (fun o h1 h2 => sh0 o h1 (by omega))
      omega
    unfold cel at shS
    omega
  · have e9 : a = 1 - L 5 (s - 32) := by omega
    subst e9
    have hh := h _ ha
    rw [b3, b4] at hh
    exact hh
theorem covSib (W : Wf L (-1)) {s c e : Int} (z : isZ s) (hc : 0 ≤ c ∧ c < 49) (h0 : L 0 c = s) (he : 0 ≤ e ∧ e < 49) (h1 : L 0 e = s) (be : BE P L s) (sh0 : ∀ k : Int, 0 ≤ k → k < L 2 s → 0 ≤ shC P L s k) (hlt : L 1 c < L 1 e) (a : cov P pt c) (b : cov P pt e) : False := by
  have ax := W.axs s z.1 z.2
  have z1 := z.1
  have rg := W.mb.rng c hc.1 hc.2 (by omega)
  rw [h0] at rg
  have rg2 := W.mb.rng e he.1 he.2 (by omega)
  rw [h1] at rg2
  have hit := mbrF_hit W.mb hc h0 (by omega)
  have hit2 := mbrF_hit W.mb he h1 (by omega)
  have b1 := be.1 (L 1 c) rg.1 rg.2
  have b2 := be.1 (L 1 e) rg2.1 rg2.2
  rw [hit] at b1
  rw [hit2] at b2
  have a1 := a _ ax
  have a2 := b _ ax
  rw [b1.1, b1.2.1] at a1
  rw [b2.1] at a2
  have p2 : smG (fun j => shC P L s j + 1) ((L 1 c).toNat + 1) ≤ smG (fun j => shC P L s j + 1) (L 1 e).toNat := smG_pre _ _ (by omega) (fun k h1 h2 => by have := sh0 k h1 (by omega); show 0 ≤ shC P L s k + 1; omega)
  have p3 : smG (fun j => shC P L s j + 1) ((L 1 c).toNat + 1) = smG (fun j => shC P L s j + 1) (L 1 c).toNat + (shC P L s (L 1 c) + 1) := by
    show smG (fun j => shC P L s j + 1) (L 1 c).toNat + (shC P L s ((L 1 c).toNat : Int) + 1) = _
    rw [show ((L 1 c).toNat : Int) = L 1 c by omega]
  omega
def Und (L : Mem) (z g : Int) : Prop := ∃ i : Nat, hol L i g = z ∧ ∀ j : Nat, j ≤ i → InT L (hol L j g)
theorem und_root (W : Wf L (-1)) {rk : Int → Nat} (K : RK L rk) : ∀ (n : Nat) (g : Int), 16 - rk g ≤ n → InT L g → ∃ z : Int, L 0 z = 47 ∧ Und L z g ∧ InT L z
  | n, g, hn, hg => by
    have b := hg.rg
    rcases hg.hol W with e | s
    · exact ⟨g, e, ⟨0, rfl, fun j hj => by rw [Nat.le_zero.mp hj]; exact hg⟩, hg⟩
    · have hs := hg.par W s
      have lt := K.2 g b.1 b.2 s.1 s.2
      have k16 := K.1 (L 0 g)
      match n, hn with
      | 0, hn => omega
      | n + 1, hn =>
        obtain ⟨z, z1, ⟨i, i1, i2⟩, z3⟩ := und_root W K n (L 0 g) (by omega) hs
        refine ⟨z, z1, ⟨i + 1, by rw [hol_s]; exact i1, fun j hj => ?_⟩, z3⟩
        cases j with
        | zero => exact hg
        | succ j => rw [hol_s]; exact i2 j (by omega)
theorem cov_uni (W : Wf L (-1)) {rk : Int → Nat} (K : RK L rk) (be : ∀ x : Int, InT L x → isZ x → BE P L x) (sh0 : ∀ s : Int, InT L s → isZ s → ∀ k : Int, 0 ≤ k → k < L 2 s → 0 ≤ shC P L s k) (shS : ∀ s : Int, InT L s → isZ s → smG (shC P L s) (L 2 s).toNat ≤ cel L (P 6 (2 * s + L 5 (s - 32))) s)
    : ∀ (d : Nat) (z : Int), rk z < d → InT L z → ∀ g1 g2 : Int, ¬ isZ g1 → ¬ isZ g2 → Und L z g1 → Und L z g2 → cov P pt g1 → cov P pt g2 → g1 = g2
  | 0, _, h, _ => by omega
  | d + 1, z, h, hz => by
    intro g1 g2 n1 n2 u1 u2 c1 c2
    have up : ∀ (g : Int), cov P pt g → ∀ i : Nat, (∀ j : Nat, j ≤ i → InT L (hol L j g)) → cov P pt (hol L i g) := by
      intro g cg i
      induction i with
      | zero => intro _; exact cg
      | succ i ih =>
        intro hi
        have a1 := hi i (by omega)
        have a2 := hi (i + 1) (Nat.le_refl _)
        have a2' : InT L (L 0 (hol L i g)) := a2
        have sz : isZ (L 0 (hol L i g)) := by
          rcases a1.hol W with e | s
          · have := a2'.rg; omega
          · exact s
        have ab := a1.rg
        exact covUp W sz ⟨by omega, by omega⟩ rfl (be _ a2' sz) (sh0 _ a2' sz) (shS _ a2' sz) (ih fun j hj => hi j (by omega))
    have low : ∀ g : Int, ¬ isZ g → Und L z g → (g = z) ∨ ∃ x : Int, InT L x ∧ L 0 x = z ∧ isZ z ∧ Und L x g ∧ (cov P pt g → cov P pt x) := by
      intro g ng ⟨i, i1, i2⟩
      cases i with
      | zero => exact Or.inl i1
      | succ i =>
        have a1 := i2 i (by omega)
        have i1' : L 0 (hol L i g) = z := i1
        have sz : isZ z := by
          rcases a1.hol W with e | s
          · have := hz.rg; omega
          · rw [← i1']; exact s
        exact Or.inr ⟨hol L i g, a1, i1', sz, ⟨i, rfl, fun j hj => i2 j (by omega)⟩, fun cg => up g cg i fun j hj => i2 j (by omega)⟩
    rcases low g1 n1 u1 with e1 | ⟨x1, a1, a2, a3, a4, a5⟩
    · rcases low g2 n2 u2 with e2 | ⟨x2, b1, b2, b3, b4, b5⟩
      · rw [e1, e2]
      · rw [e1] at n1; exact absurd b3 n1
    · rcases low g2 n2 u2 with e2 | ⟨x2, b1, b2, b3, b4, b5⟩
      · rw [e2] at n2; exact absurd a3 n2
      · have q1 := a1.rg
        have q2 := b1.rg
        have c1' := a5 c1
        have c2' := b5 c2
        rcases Int.lt_trichotomy (L 1 x1) (L 1 x2) with l | l | l
        · exact (covSib W a3 ⟨by omega, by omega⟩ a2 ⟨by omega, by omega⟩ b2 (be _ hz a3) (sh0 _ hz a3) l c1' c2').elim
        · have ex : x1 = x2 := W.mb.inj x1 x2 (by omega) (by omega) (by omega) (by omega) (by have := a3.1; omega) (by omega) l
          subst ex
          have lt := K.2 x1 q1.1 q1.2 (by have := a3.1; omega) (by have := a3.2; omega)
          rw [a2] at lt
          exact cov_uni W K be sh0 shS d x1 (by omega) a1 g1 g2 n1 n2 a4 b4 c1 c2
        · exact (covSib W a3 ⟨by omega, by omega⟩ b2 ⟨by omega, by omega⟩ a2 (be _ hz a3) (sh0 _ hz a3) l c2' c1').elim
end CV
