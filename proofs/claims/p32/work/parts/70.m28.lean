/-! the class places the children of a split -/
theorem spnF_in {P : Mem} {t x f c : Int} (ht : 16 ≤ t ∧ t < 47) (hx : x = 0 ∨ x = 1) (hf : -1000000 ≤ f ∧ f ≤ 1000000) (hc : -1000000 ≤ c ∧ c ≤ 1000000) : spnF P t x f c = up (up P 5 (2 * t + x) f) 6 (2 * t + x) c := by
  unfold spnF
  rw [sK_in ⟨by omega, by omega⟩ (by decide) (by omega), sK_in ⟨by omega, by omega⟩ (by decide) (by omega)]
theorem pcG_e {P L : Mem} {x : Int} (W : Wf L (-1)) (F : Fu L) (hM : MoT P L) (hx : InT L x) (z : isZ x) {sh : Int → Int} (hsh : ∀ k : Int, 0 ≤ k → k < L 2 x → P 12 k = sh k ∧ 0 ≤ sh k ∧ sh k ≤ 1000)
    (h5 : ∀ ax : Int, (ax = 0 ∨ ax = 1) → (0 ≤ P 5 (2 * x + ax) ∧ P 5 (2 * x + ax) ≤ 100000) ∧ 0 ≤ P 6 (2 * x + ax) ∧ P 6 (2 * x + ax) ≤ 1000) (h7 : 0 ≤ P 7 x ∧ P 7 x ≤ 1000) (h12 : 0 ≤ P 0 12 ∧ P 0 12 ≤ 1000000) :
    ∀ j : Nat, j ≤ (L 2 x).toNat → (pcG P L x j).2 = P 5 (2 * x + L 5 (x - 32)) + smG (fun k => sh k + 1) j ∧
      (∀ k : Int, 0 ≤ k → k < j → (pcG P L x j).1 5 (2 * mbrF L x k + L 5 (x - 32)) = P 5 (2 * x + L 5 (x - 32)) + smG (fun k => sh k + 1) k.toNat ∧ (pcG P L x j).1 6 (2 * mbrF L x k + L 5 (x - 32)) = sh k ∧
        (pcG P L x j).1 5 (2 * mbrF L x k + (1 - L 5 (x - 32))) = P 5 (2 * x + (1 - L 5 (x - 32))) ∧ (pcG P L x j).1 6 (2 * mbrF L x k + (1 - L 5 (x - 32))) = P 6 (2 * x + (1 - L 5 (x - 32))) ∧ (pcG P L x j).1 7 (mbrF L x k) = P 7 x + 1) ∧
      (∀ (y ax : Int), (ax = 0 ∨ ax = 1) → (∀ k : Int, 0 ≤ k → k < j → y ≠ mbrF L x k) → (pcG P L x j).1 5 (2 * y + ax) = P 5 (2 * y + ax) ∧ (pcG P L x j).1 6 (2 * y + ax) = P 6 (2 * y + ax) ∧ (pcG P L x j).1 7 y = P 7 y) ∧
      (∀ (k : Nat) (i : Int), k ≠ 5 → k ≠ 6 → k ≠ 7 → (pcG P L x j).1 k i = if k = 0 ∧ i = 12 then P 0 12 + (L 2 x - 1) * P 6 (2 * x + (1 - L 5 (x - 32))) else P k i)
  | 0, _ => by
    have b := hx.rg
    have z1 := z.1
    have z2 := z.2
    have axs := W.axs x z1 z2
    have c16 := W.cnt16 F (h := x) ⟨by omega, by omega⟩
    have nn := W.mb.nng x (by omega) (by omega)
    have ep : pcA L x = 1 - L 5 (x - 32) := by
      unfold pcA
      rw [gL_5 ⟨by omega, by omega⟩]
      split <;> omega
    have sA := (h5 (1 - L 5 (x - 32)) (by omega)).2
    have m1 : 0 ≤ (L 2 x - 1 + 1) * P 6 (2 * x + (1 - L 5 (x - 32))) := Int.mul_nonneg (by omega) sA.1
    have m2 : (L 2 x - 1 + 1) * P 6 (2 * x + (1 - L 5 (x - 32))) ≤ 16 * 1000 := Int.mul_le_mul (by omega) sA.2 sA.1 (by omega)
    have m3 : (L 2 x - 1 + 1) * P 6 (2 * x + (1 - L 5 (x - 32))) = (L 2 x - 1) * P 6 (2 * x + (1 - L 5 (x - 32))) + P 6 (2 * x + (1 - L 5 (x - 32))) := by rw [Int.add_mul, Int.one_mul]
    have eq : pcQ P L x = up P 0 12 (P 0 12 + (L 2 x - 1) * P 6 (2 * x + (1 - L 5 (x - 32)))) := by
      unfold pcQ
      rw [ep, gL_2 ⟨by omega, by omega⟩, gK_in ⟨by omega, by omega⟩ (by decide), wr_id (by omega)]
    refine ⟨?_, fun k h1 h2 => by omega, fun y ax ha hy => ⟨?_, ?_, ?_⟩, fun k i k5 k6 k7 => ?_⟩
    · show gK (pcQ P L x) 5 98 (2 * x + gL L 5 (x - 32)) = _ + 0
      rw [eq, gL_5 ⟨by omega, by omega⟩, gK_in ⟨by omega, by omega⟩ (by decide), up_e, if_neg (by omega)]; omega
    · show pcQ P L x 5 _ = _
      rw [eq, up_e, if_neg (by omega)]
    · show pcQ P L x 6 _ = _
      rw [eq, up_e, if_neg (by omega)]
    · show pcQ P L x 7 _ = _
      rw [eq, up_e, if_neg (by omega)]
    · show pcQ P L x k i = _
      rw [eq, up_e]
  | j + 1, hj => by
    obtain ⟨p1, p2, p3, p4⟩ := pcG_e W F hM hx z hsh h5 h7 h12 j (by omega)
    have b := hx.rg
    have z1 := z.1
    have z2 := z.2
    have axs := W.axs x z1 z2
    have c16 := W.cnt16 F (h := x) ⟨by omega, by omega⟩
    have nn := W.mb.nng x (by omega) (by omega)
    have ep : pcA L x = 1 - L 5 (x - 32) := by
      unfold pcA
      rw [gL_5 ⟨by omega, by omega⟩]
      split <;> omega
    have kid : ∀ k : Int, 0 ≤ k → k < L 2 x → (0 ≤ mbrF L x k ∧ mbrF L x k < 49) ∧ L 0 (mbrF L x k) = x ∧ L 1 (mbrF L x k) = k := fun k h1 h2 => mbrF_get W.mb ⟨by omega, by omega⟩ ⟨h1, h2⟩
    have kT : ∀ k : Int, 0 ≤ k → k < L 2 x → 16 ≤ mbrF L x k ∧ mbrF L x k < 47 := fun k h1 h2 => (kidT W z ⟨h1, h2⟩).rg
    have kinj : ∀ k l : Int, 0 ≤ k → k < L 2 x → 0 ≤ l → l < L 2 x → mbrF L x k = mbrF L x l → k = l := fun k l h1 h2 h3 h4 e => by
      have a := (kid k h1 h2).2.2
      rw [e, (kid l h3 h4).2.2] at a
      exact a.symm
    have kself : ∀ k : Int, 0 ≤ k → k < L 2 x → x ≠ mbrF L x k := fun k h1 h2 e => by
      have a := (kid k h1 h2).2.1
      rw [← e] at a
      obtain ⟨r, hr⟩ := W.rank
      have := hr x b.1 b.2 (by omega) (by omega)
      rw [a] at this
      omega
    have sj := hsh j (by omega) (by omega)
    have ss := smG_ge (fun k => sh k + 1) 0 j (fun k h1 h2 => by have := hsh k h1 (by omega); show 0 ≤ sh k + 1; omega)
    have ss2 := smG_le (fun k => sh k + 1) 1001 j (fun k h1 h2 => by have := hsh k h1 (by omega); show sh k + 1 ≤ 1001; omega)
    have hAl := h5 (L 5 (x - 32)) axs
    have hAc := h5 (1 - L 5 (x - 32)) (by omega)
    have hM2 : MoT (pcG P L x j).1 L := fun h i a c d e => by rw [p4 1 _ (by omega) (by omega) (by omega), if_neg (by omega)]; exact hM h i a c d e
    have me : mo (pcG P L x j).1 x j = mbrF L x j := mo_e W F hM2 ⟨by omega, by omega⟩
    have cT := kT j (by omega) (by omega)
    have q12 : (pcG P L x j).1 12 j = sh j := by rw [p4 12 _ (by omega) (by omega) (by omega), if_neg (by omega)]; exact sj.1
    have own := fun ax ha => p3 x ax ha (fun k h1 h2 => kself k h1 (by omega))
    have ownc := own (1 - L 5 (x - 32)) (by omega)
    have e : (pcG P L x (j + 1)) = (pcS (pcG P L x j).1 x (L 5 (x - 32)) (1 - L 5 (x - 32)) (pcG P L x j).2 (mbrF L x j) j, (pcG P L x j).2 + (gK (pcS (pcG P L x j).1 x (L 5 (x - 32)) (1 - L 5 (x - 32)) (pcG P L x j).2 (mbrF L x j) j) 12 16 j + 1)) := by
      rw [pcG, ep, gL_5 ⟨by omega, by omega⟩, me]
    have eS : pcS (pcG P L x j).1 x (L 5 (x - 32)) (1 - L 5 (x - 32)) (pcG P L x j).2 (mbrF L x j) j =
        up (up (up (up (up (pcG P L x j).1 5 (2 * mbrF L x j + L 5 (x - 32)) (P 5 (2 * x + L 5 (x - 32)) + smG (fun k => sh k + 1) j)) 6 (2 * mbrF L x j + L 5 (x - 32)) (sh j)) 5 (2 * mbrF L x j + (1 - L 5 (x - 32))) (P 5 (2 * x + (1 - L 5 (x - 32))))) 6 (2 * mbrF L x j + (1 - L 5 (x - 32))) (P 6 (2 * x + (1 - L 5 (x - 32))))) 7 (mbrF L x j) (P 7 x + 1) := by
      have ks := kself j (by omega) (by omega)
      unfold pcS
      have a12 : gK (pcG P L x j).1 12 16 j = sh j := by rw [gK_in ⟨by omega, by omega⟩ (by decide), q12]
      rw [a12, p1, spnF_in cT axs (by omega) (by omega)]
      have g5 : gK (up (up (pcG P L x j).1 5 (2 * mbrF L x j + L 5 (x - 32)) (P 5 (2 * x + L 5 (x - 32)) + smG (fun k => sh k + 1) j)) 6 (2 * mbrF L x j + L 5 (x - 32)) (sh j)) 5 98 (2 * x + (1 - L 5 (x - 32))) = P 5 (2 * x + (1 - L 5 (x - 32))) := by
        rw [gK_in ⟨by omega, by omega⟩ (by decide), up_e, if_neg (by omega), up_e, if_neg (by omega), ownc.1]
      have g6 : gK (up (up (pcG P L x j).1 5 (2 * mbrF L x j + L 5 (x - 32)) (P 5 (2 * x + L 5 (x - 32)) + smG (fun k => sh k + 1) j)) 6 (2 * mbrF L x j + L 5 (x - 32)) (sh j)) 6 98 (2 * x + (1 - L 5 (x - 32))) = P 6 (2 * x + (1 - L 5 (x - 32))) := by
        rw [gK_in ⟨by omega, by omega⟩ (by decide), up_e, if_neg (by omega), up_e, if_neg (by omega), ownc.2.1]
      simp only [g5, g6]
      rw [spnF_in cT (by omega) (by omega) (by omega), gK_in ⟨by omega, by omega⟩ (by decide), up_e, if_neg (by omega), up_e, if_neg (by omega), up_e, if_neg (by omega), up_e, if_neg (by omega), ownc.2.2, sK_in ⟨by omega, by omega⟩ (by decide) (by omega)]
    rw [e, eS]
    generalize (pcG P L x j).1 = Y at *
    have es : smG (fun k => sh k + 1) (j + 1) = smG (fun k => sh k + 1) j + (sh j + 1) := rfl
    refine ⟨?_, fun k h1 h2 => ?_, fun y ax ha hy => ?_, fun k i k5 k6 k7 => ?_⟩
    · show (pcG P L x j).2 + (gK _ 12 16 j + 1) = _
      rw [gK_in ⟨by omega, by omega⟩ (by decide), up_e, if_neg (by omega), up_e, if_neg (by omega), up_e, if_neg (by omega), up_e, if_neg (by omega), up_e, if_neg (by omega), q12, p1, es]
      omega
    · by_cases y : k = j
      · subst y
        have kn : ((j : Nat) : Int).toNat = j := by omega
        rw [kn]
        refine ⟨?_, ?_, ?_, ?_, ?_⟩
        · simp only [up_e]; rw [if_neg (by omega), if_neg (by omega), if_neg (by omega), if_neg (by omega), if_pos (by simp)]
        · simp only [up_e]; rw [if_neg (by omega), if_neg (by omega), if_neg (by omega), if_pos (by simp)]
        · simp only [up_e]; rw [if_neg (by omega), if_neg (by omega), if_pos (by simp)]
        · simp only [up_e]; rw [if_neg (by omega), if_pos (by simp)]
        · simp only [up_e]; rw [if_pos (by simp)]
      · have n : mbrF L x k ≠ mbrF L x j := fun e => y (kinj k j h1 (by omega) (by omega) (by omega) e)
        have t := kT k h1 (by omega)
        obtain ⟨a1, a2, a3, a4, a5⟩ := p2 k h1 (by omega)
        refine ⟨?_, ?_, ?_, ?_, ?_⟩
        · simp only [up_e]; rw [if_neg (by omega), if_neg (by omega), if_neg (by omega), if_neg (by omega), if_neg (by omega), a1]
        · simp only [up_e]; rw [if_neg (by omega), if_neg (by omega), if_neg (by omega), if_neg (by omega), if_neg (by omega), a2]
        · simp only [up_e]; rw [if_neg (by omega), if_neg (by omega), if_neg (by omega), if_neg (by omega), if_neg (by omega), a3]
        · simp only [up_e]; rw [if_neg (by omega), if_neg (by omega), if_neg (by omega), if_neg (by omega), if_neg (by omega), a4]
        · simp only [up_e]; rw [if_neg (fun q => n q.2), if_neg (by omega), if_neg (by omega), if_neg (by omega), if_neg (by omega), a5]
    · have n := hy j (by omega) (by omega)
      obtain ⟨a1, a2, a3⟩ := p3 y ax ha (fun k h1 h2 => hy k h1 (by omega))
      refine ⟨?_, ?_, ?_⟩
      · simp only [up_e]; rw [if_neg (by omega), if_neg (by omega), if_neg (by omega), if_neg (by omega), if_neg (by omega), a1]
      · simp only [up_e]; rw [if_neg (by omega), if_neg (by omega), if_neg (by omega), if_neg (by omega), if_neg (by omega), a2]
      · simp only [up_e]; rw [if_neg (fun q => n q.2), if_neg (by omega), if_neg (by omega), if_neg (by omega), if_neg (by omega), a3]
    · simp only [up_e]
      rw [if_neg (by omega), if_neg (by omega), if_neg (by omega), if_neg (by omega), if_neg (by omega)]
      exact p4 k i k5 k6 k7
