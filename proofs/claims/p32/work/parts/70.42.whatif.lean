theorem dkT_TB {N : Int} {T : Mem} (h : TB N T) (hN : 100 ≤ N) {P : Int} (hP : 0 ≤ P ∧ P ≤ 16) {p t s : Int} (hp : 0 ≤ p ∧ p < 16) (ht : 0 ≤ t ∧ t < 16) (ho : okD T P p t s) : TB (N + 3) (dkT T P p t s) := by
  obtain ⟨o1, o2, o3⟩ := ho
  have h1 := tkT_TB h hN hP hp
  have b9 := h1.g ht
  have bt := tbT_b (tkT T P p) hP (tkT T P p 9 t)
  have bk := knF_b s
  unfold dkT
  split
  · exact (((h1.mono (show N + 2 ≤ N + 3 by omega)).upd _ _ (by omega) (by omega) (by omega)).upd _ _ (by omega) (by omega) (by omega)).upd _ _ (by omega) (by omega) (by omega)
  · rename_i z
    obtain ⟨f1, f2⟩ := o3 z
    have h2 := TB_dk2 h hN hP hp f1
    have b1 := h2.p (i := tkT T P p 9 t) (by omega)
    have b2 := h2.n 2 (by decide) (i := tkT T P p 9 t) (by omega)
    have b3 := h2.n 3 (by decide) (i := tkT T P p 9 t) (by omega)
    split
    · rename_i y
      refine TB.mono (?_ : TB (N + 2 + 1) _) (by omega)
      refine ciT_TB h2 (by omega) ?_ ?_ b3
      · omega
      · split <;> omega
    · rename_i y
      exact (prT_TB h2 (by omega) (f2 y) (by omega) (by omega)).mono (by omega)
