/-! ONE COMMAND, read by both sides alike; the fault of a text -/
theorem pvG_c {B B' : Int → Int} (u : Int) : ∀ (d : Nat) (c v : Int), (∀ i : Int, c ≤ i → i < c + d → B i = B' i) → pvG B u d c v = pvG B' u d c v
  | 0, c, v, _ => rfl
  | d + 1, c, v, h => by
    rw [pvG, pvG, h c (by omega) (by omega), pvG_c u d (c + 1) _ (fun i h1 h2 => h i (by omega) (by omega))]
section CM
variable {m w : Mem} {t r : Nat}
theorem wv_c (A : TQ m t w r) {u : Int} (h : 0 ≤ u) : pvC (tB m t) u (wcF w r u - u) (wvF9 w r u) := by
  have P := pv_c (tB m t) u (w r 6 - u).toNat
  rw [pvG_c (B := tB m t) (B' := w (r + 5)) u _ u 0 (fun i h1 h2 => (A.2.2 i (by omega) (by omega)).1), scG_c (B := tB m t) (B' := w (r + 5)) 97 122 _ u (fun i h1 h2 => (A.2.2 i (by omega) (by omega)).1)] at P
  exact P
theorem cm_e (A : TQ m t w r) {c : Int} (k : Int) (N N' : Int → Int) (h : 0 ≤ c ∧ c ≤ w r 6) (hl : kF w r c < w r 6) :
    ((cmF w r (kF w r c) N').1 = 1 → (rnF m t c k N).1 = 1 ∧ kF w r (rnF m t c k N).2.1 = (cmF w r (kF w r c) N').2.1 ∧ (rnF m t c k N).2.2.1 = -1 ∧ (1 ≤ (rnF m t c k N).2.2.2.1 ∧ (rnF m t c k N).2.2.2.1 ≤ 8) ∧ (cmF w r (kF w r c) N').2.2.1 = wcd (rnF m t c k N).2.2.2.1 ∧ ∀ j : Int, 0 ≤ j → j < enN (rnF m t c k N).2.2.2.1 → (rnF m t c k N).2.2.2.2 j = (cmF w r (kF w r c) N').2.2.2 j) ∧
    ((cmF w r (kF w r c) N').1 ≠ 1 → (rnF m t c k N).1 = 0 ∧ (rnF m t c k N).2.2.1 = (cmF w r (kF w r c) N').2.1 ∧ 0 ≤ (cmF w r (kF w r c) N').2.1) := by
  have e := sk_e A h.1
  have kb := kF_b w r h
  unfold rnF
  rw [e, A.1, if_neg (by omega)]
  generalize kF w r c = u at *
  unfold rnB cmF
  have u0 : 0 ≤ u := by omega
  rw [wd_e A u0]
  have q := wrd_e (wv_c A u0)
  have wb := wcF_b w r (c := u) (by omega)
  generalize wrdG m t (wcF w r u) u 8 = K at q ⊢
  by_cases z : wcF w r u - u ≤ 5 ∧ mnF (wvF9 w r u) ≠ -1
  · obtain ⟨q1, q2, q3⟩ := q.1 z
    rw [show iwR w r u = 1 from if_pos z, if_pos rfl, if_neg (show ¬ K = 0 by omega), q3]
    have rl := rl_e A (enN K).toNat 0 (wcF w r u) N N' (by omega)
    have nb := nlG_b w r (enN K).toNat 0 (wcF w r u) N' (by omega)
    have eb := enN_b K
    generalize rlG m t (enN K).toNat 0 (wcF w r u) (-1) N = X at *
    generalize nlG w r (enN K).toNat 0 (wcF w r u) N' = Y at *
    have kb2 := kF_b w r (c := Y.2.1) (by omega)
    unfold rnA cmA
    by_cases y : Y.1 = 1
    · obtain ⟨r1, r2, r3, r4⟩ := rl.1 y
      rw [if_pos r2, if_pos y, r1, sk_e A (by omega), rAt_e A (c := kF w r Y.2.1) (lo := 59) (hi := 59) (by omega) (by omega)]
      by_cases s : tH m t (kF w r Y.2.1) = 59
      · rw [if_pos s, if_pos (show 59 ≤ tH m t (kF w r Y.2.1) ∧ tH m t (kF w r Y.2.1) ≤ 59 by omega), if_pos rfl]
        dsimp only
        exact ⟨fun _ => ⟨rfl, rfl, rfl, q1, q2, fun j h1 h2 => r3 j h1 (by omega)⟩, fun x => absurd rfl x⟩
      · rw [if_neg s, if_neg (show ¬ (59 ≤ tH m t (kF w r Y.2.1) ∧ tH m t (kF w r Y.2.1) ≤ 59) by omega), if_neg (show ¬ (0 : Int) = 1 by decide)]
        dsimp only
        exact ⟨fun x => absurd x (by decide), fun _ => ⟨rfl, rfl, by omega⟩⟩
    · rw [if_neg y]
      dsimp only
      refine ⟨fun x => absurd x (by decide), fun _ => ?_⟩
      rcases rl.2 y with ⟨f1, f2⟩ | ⟨f1, f2, f3, f4⟩
      · rw [if_neg f1]
        exact ⟨rfl, f2, nb.1.1 |> fun h9 => by omega⟩
      · have tx := tH_e A (c := X.1) (by omega)
        have lx : X.1 < w r 6 := by
          by_cases l : X.1 < w r 6
          · exact l
          · rw [if_neg l] at tx; omega
        rw [if_pos lx] at tx
        have kx : kF w r X.1 = X.1 := kF_no (by omega)
        rw [if_pos f1, sk_e A (by omega), kx, if_neg (by omega)]
        exact ⟨rfl, f2, by omega⟩
  · have q0 := q.2 z
    rw [show iwR w r u = 0 from if_neg z, if_neg (show ¬ (0 : Int) = 1 by decide), q0, if_pos rfl]
    dsimp only
    refine ⟨fun x => absurd x (by decide), fun _ => ?_⟩
    rw [show (enN 0).toNat = 0 from rfl, rlG]
    unfold rnA
    dsimp only
    rw [if_neg (show ¬ u = -1 by omega)]
    exact ⟨rfl, rfl, u0⟩
theorem rn_end (A : TQ m t w r) {c : Int} (k : Int) (N : Int → Int) (h : 0 ≤ c ∧ c ≤ w r 6) (hl : ¬ kF w r c < w r 6) : rnF m t c k N = (0, kF w r c, -1, k, N) := by
  unfold rnF
  rw [sk_e A h.1, A.1, if_pos (by omega)]
theorem fta_e (A : TQ m t w r) : ∀ (d e : Nat) (c k : Int) (N N' : Int → Int) (W : Int64), (0 ≤ c ∧ c ≤ w r 6) → (0 ≤ k ∧ k ≤ 8) → w r 6 - c ≤ d → w r 6 - kF w r c < e → (ftaG m t d (c, -1, k, N)).2.1 = (fqG w r e (kF w r c) (W, N')).1
  | 0, e, c, k, N, N', W, h, hk, h1, h2 => by
    have kb := kF_b w r h
    rw [ftaG]
    cases e with
    | zero => rw [fqG]
    | succ e => rw [fqG, if_neg (by omega)]
  | d + 1, 0, c, k, N, N', W, h, hk, h1, h2 => by
    have kb := kF_b w r h
    omega
  | d + 1, e + 1, c, k, N, N', W, h, hk, h1, h2 => by
    have kb := kF_b w r h
    have rb := rnF_b m t (c := c) k N (by rw [A.1]; exact h) hk
    rw [A.1] at rb
    rw [ftaG, fqG]
    dsimp only
    by_cases hl : kF w r c < w r 6
    · have q := cm_e A k N N' h hl
      have cb := cmF_b w r (c := kF w r c) N' (by omega)
      rw [if_pos hl]
      by_cases y : (cmF w r (kF w r c) N').1 = 1
      · obtain ⟨q1, q2, q3, q4, q5, q6⟩ := q.1 y
        have e1 : (rnF m t c k N).2 = ((rnF m t c k N).2.1, (-1 : Int), (rnF m t c k N).2.2.2.1, (rnF m t c k N).2.2.2.2) := by rw [← q3]
        rw [if_pos q1, if_pos y, e1, ← q2]
        have := cb.2.2 y
        have := rb.2.2.2.1 q1
        exact fta_e A d e _ _ _ _ _ rb.1 rb.2.1 (by omega) (by omega)
      · obtain ⟨q1, q2, q3⟩ := q.2 y
        rw [if_neg (by omega), if_neg y]
        exact q2
    · rw [rn_end A k N h hl, if_neg hl, if_neg (show ¬ (0 : Int) = 1 by decide)]
end CM
