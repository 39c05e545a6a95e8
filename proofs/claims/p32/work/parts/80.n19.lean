/-! THE SPLITS ABOVE A NODE -/
def an (L : Mem) : Nat → Int → Int
  | 0, g => g
  | k + 1, g => an L k (L 0 g)
theorem an_s (L : Mem) : ∀ (k : Nat) (g : Int), an L (k + 1) g = L 0 (an L k g)
  | 0, _ => rfl
  | k + 1, g => an_s L k (L 0 g)
theorem upG_an {L : Mem} : ∀ (k : Nat) (u : Int), (∀ j : Nat, j < k → isZ (L 0 (an L j u))) → upG L k u (L 0 u) = (an L k u, L 0 (an L k u))
  | 0, _, _ => rfl
  | k + 1, u, h => by
    have z : isZ (L 0 u) := h 0 (by omega)
    have z1 := z.1
    have z2 := z.2
    unfold upG
    rw [if_pos (show spF (L 0 u) = 1 from if_pos z), gL0 (by omega)]
    exact upG_an k (L 0 u) (fun j hj => h (j + 1) (by omega))
section AN
variable {L P : Mem} {f : Int → Int} {wd hg : Int} {rk : Int → Nat}
theorem PlE.an9 (W : Wf L (-1)) (K : RK L rk) (E : PlE L f wd hg rk P) : ∀ (n : Nat) (x : Int), 16 - rk x ≤ n → InT L x → ∃ d : Nat, P 7 x = d ∧ d ≤ 17 ∧ (∀ k : Nat, k < d → isZ (L 0 (an L k x))) ∧ (∀ k : Nat, k ≤ d → InT L (an L k x)) ∧ L 0 (an L d x) = 47
  | n, x, hn, hx => by
    have b := hx.rg
    have b7 := (E.bx x hx).2
    rcases hx.hol W with e | s
    · have ro := E.p0.tp.roo x hx e
      refine ⟨0, ro.2.2.2.2, by omega, fun k hk => by omega, fun k hk => ?_, e⟩
      rw [show k = 0 by omega]
      exact hx
    · have hs := hx.par W s
      have z1 := s.1
      have z2 := s.2
      have rg := W.mb.rng x (by omega) (by omega) (by omega)
      have hit := mbrF_hit W.mb (h := L 0 x) (t := x) ⟨by omega, by omega⟩ rfl (by omega)
      have lt := K.2 x (by omega) (by omega) z1 z2
      have b16 := K.1 (L 0 x)
      have be := (E.be _ hs s).1 (L 1 x) rg.1 rg.2
      rw [hit] at be
      match n, hn with
      | 0, hn => omega
      | n + 1, hn =>
        obtain ⟨d, d1, d2, d3, d4, d5⟩ := PlE.an9 W K E n (L 0 x) (by omega) hs
        have e7 : P 7 x = ((d + 1 : Nat) : Int) := by rw [be.2.2.2.2, d1]; omega
        refine ⟨d + 1, e7, by omega, fun k hk => ?_, fun k hk => ?_, d5⟩
        · match k with
          | 0 => exact s
          | k + 1 => exact d3 k (by omega)
        · match k with
          | 0 => exact hx
          | k + 1 => exact d4 k (by omega)
end AN
