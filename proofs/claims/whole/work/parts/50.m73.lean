/-! A RUN OF COMMANDS: a step -/
theorem clM_off {m : Mem} {c : Nat} {p w v : Int} {x : Nat} (h : x ≠ c + 1) (i : Int) : clM m c p w v x i = m x i := by
  unfold clM sK puF
  (repeat' split) <;> simp only [up_a _ _ _ _ h]
theorem coM_off {m : Mem} {c t : Nat} {x : Nat} (h : x < c ∨ c + 49 ≤ x) (i : Int) (h8 : m t 5 = 7 ∨ m t 5 = 8 → (m (t + 2) 0).toNat < 4) : coM m c t x i = m x i := by
  unfold coM
  split
  · unfold apM
    rw [up_a _ _ _ _ (by omega), clM_off (by omega)]
  · split
    · exact putL_x (by omega) i
    · split
      · exact putL_x (by omega) i
      · split
        · exact putL_x (by omega) i
        · split
          · exact putL_x (by omega) i
          · split
            · exact putL_x (by omega) i
            · split
              · rename_i z
                have := h8 (Or.inl z)
                unfold kpM sK puF
                split
                · rw [up_a _ _ _ _ (by omega), cp8_off i 8 (by omega)]
                · rw [cp8_off i 8 (by omega)]
              · split
                · rename_i z
                  have := h8 (Or.inr z)
                  exact cp8_off i 8 (by omega)
                · rfl
theorem fc_78 {m : Mem} {c t : Nat} (hf : fcF m c t = 0) (h : m t 5 = 7 ∨ m t 5 = 8) : 0 ≤ m (t + 2) 0 ∧ m (t + 2) 0 ≤ 3 := by
  rcases h with h | h
  · have f : fcF m c t = frF (m (t + 2) 0) 0 3 := by simp [fcF, h]
    rw [f] at hf
    unfold frF at hf
    split at hf
    · assumption
    · omega
  · have f : fcF m c t = flF8 m c (m (t + 2) 0) := by simp [fcF, h]
    rw [f] at hf
    unfold flF8 at hf
    split at hf
    · assumption
    · omega
theorem dsM_off {w : Mem} {r : Nat} {v : Int} {x : Nat} (h : x ≠ r + 1) (i : Int) (h2 : ¬ (x = r ∧ i = 19)) : dsM w r v x i = w x i := by
  unfold dsM
  (repeat' split)
  · unfold adM adB; rw [ptT_x _ _ _ h, up_a _ _ _ _ h, up_a _ _ _ _ h, up_a _ _ _ _ h, up_e, if_neg h2]
  · rw [ptT_x _ _ _ h, up_e, if_neg h2]
  · rw [ptT_x _ _ _ h, up_e, if_neg h2]
  · rw [ptT_x _ _ _ h, up_e, if_neg h2]
  · rw [ptT_x _ _ _ h, up_e, if_neg h2]
  · rw [ptT_x _ _ _ h, up_e, if_neg h2]
  · unfold svB svP; rw [if_neg (by omega), up_a _ _ _ _ h, ptT_x _ _ _ h, up_e, if_neg h2]
  · unfold brB; rw [ptT_x _ _ _ h, up_e, if_neg h2]
section S2
variable {N : Int} {m w : Mem} {c h t p b q r : Nat} {s0 past : Int → Int} {np : Int}
theorem s_1 (O : Od c h t p b q r) (J : JR N m w c h t b r s0 past np) (hN : 1000000 ≤ N ∧ N ≤ 10000000) (hK : m t 5 = 1) (hn : ∀ j : Int, 0 ≤ j → j < enN 1 → m (t + 2) j = w (r + 16) j) :
    dsO w r 1885433445 ∧ (dsF w r 1885433445 = 0 ↔ fcF m c t = 0) ∧ (fcF m c t = 0 → JR (N + 20) (coM m c t) (dsM w r 1885433445) c h t b r s0 past np) := by
  have n0 := hn 0 (by decide) (by decide)
  have n1 := hn 1 (by decide) (by decide)
  have f1 : fcF m c t = fnF m c (m (t + 2) 0) (m (t + 2) 1) := by simp [fcF, hK]
  have f2 : coM m c t = apM m c (m (t + 2) 0) (m (t + 2) 1) := by simp [coM, hK]
  have d1 : dsF w r 1885433445 = adF (w (r + 1) 2) (w (r + 16) 0) (w (r + 16) 1) := by simp [dsF]
  have d2 : dsM w r 1885433445 = adM w r (trT w r) (w (r + 16) 0) (w (r + 16) 1) := by simp [dsM]
  rw [f1, f2, d1, d2, n0, n1]
  obtain ⟨e, g⟩ := s_add O J hN (w (r + 16) 0) (w (r + 16) 1)
  exact ⟨⟨fun z => absurd z (by decide), fun z => absurd z (by decide), fun z => absurd z (by decide), fun z => absurd z (by decide)⟩, e, g⟩
theorem s_2 (O : Od c h t p b q r) (J : JR N m w c h t b r s0 past np) (hN : 1000000 ≤ N ∧ N ≤ 10000000) (hK : m t 5 = 2) (hn : ∀ j : Int, 0 ≤ j → j < enN 2 → m (t + 2) j = w (r + 16) j) :
    dsO w r 1701078885 ∧ (dsF w r 1701078885 = 0 ↔ fcF m c t = 0) ∧ (fcF m c t = 0 → JR (N + 20) (coM m c t) (dsM w r 1701078885) c h t b r s0 past np) := by
  have n0 := hn 0 (by decide) (by decide)
  have n1 := hn 1 (by decide) (by decide)
  have f1 : fcF m c t = fgF m c (m (t + 2) 0) (m (t + 2) 1) := by simp [fcF, hK]
  have f2 : coM m c t = putL m (c + 2) (dwF (lay m (c + 2)) (m (t + 2) 0) (m (t + 2) 1)) := by simp [coM, hK]
  have d1 : dsF w r 1701078885 = egF (w (r + 1) 2) (w (r + 16) 0) (w (r + 16) 1) := by simp [dsF]
  have d2 : dsM w r 1701078885 = ptT (up w r 19 (ctT (egC (trT w r) (w (r + 1) 2) (w (r + 16) 0) (w (r + 16) 1)) 1)) r (egC (trT w r) (w (r + 1) 2) (w (r + 16) 0) (w (r + 16) 1)) := by simp [dsM]
  rw [f1, f2, d1, d2, n0, n1]
  obtain ⟨e, g⟩ := s_edge O J hN (w (r + 16) 0) (w (r + 16) 1)
  exact ⟨⟨fun _ z => (g (e ▸ z)).1, fun z => absurd z (by decide), fun z => absurd z (by decide), fun z => absurd z (by decide)⟩, by rw [e], fun z => (g z).2⟩
theorem s_3 (O : Od c h t p b q r) (J : JR N m w c h t b r s0 past np) (hN : 1000000 ≤ N ∧ N ≤ 10000000) (hK : m t 5 = 3) (hn : ∀ j : Int, 0 ≤ j → j < enN 3 → m (t + 2) j = w (r + 16) j) :
    dsO w r 1685021547 ∧ (dsF w r 1685021547 = 0 ↔ fcF m c t = 0) ∧ (fcF m c t = 0 → JR (N + 20) (coM m c t) (dsM w r 1685021547) c h t b r s0 past np) := by
  have n0 := hn 0 (by decide) (by decide)
  have n1 := hn 1 (by decide) (by decide)
  have n2 := hn 2 (by decide) (by decide)
  have f1 : fcF m c t = fdF m c (m (t + 2) 0) (m (t + 2) 1) (m (t + 2) 2) := by simp [fcF, hK]
  have f2 : coM m c t = putL m (c + 2) (dkF (lay m (c + 2)) (m (t + 2) 0) (m (t + 2) 1) (m (t + 2) 2)) := by simp [coM, hK]
  have d1 : dsF w r 1685021547 = mcF (trT w r) (w (r + 1) 2) (w (r + 16) 0) (w (r + 16) 1) (w (r + 16) 2) := by simp [dsF]
  have d2 : dsM w r 1685021547 = ptT (up w r 19 (dkA (trT w r) (w (r + 1) 2) (w (r + 16) 0) (w (r + 16) 1) (w (r + 16) 2))) r (dkT (trT w r) (w (r + 1) 2) (w (r + 16) 0) (w (r + 16) 1) (w (r + 16) 2)) := by simp [dsM]
  rw [f1, f2, d1, d2, n0, n1, n2]
  obtain ⟨e, g⟩ := s_dock O J hN (w (r + 16) 0) (w (r + 16) 1) (w (r + 16) 2)
  exact ⟨⟨fun z => absurd z (by decide), fun _ z => (g (e ▸ z)).1, fun z => absurd z (by decide), fun z => absurd z (by decide)⟩, by rw [e], fun z => (g z).2⟩
theorem s_4 (O : Od c h t p b q r) (J : JR N m w c h t b r s0 past np) (hN : 1000000 ≤ N ∧ N ≤ 10000000) (hK : m t 5 = 4) (hn : ∀ j : Int, 0 ≤ j → j < enN 4 → m (t + 2) j = w (r + 16) j) :
    dsO w r 439905902964 ∧ (dsF w r 439905902964 = 0 ↔ fcF m c t = 0) ∧ (fcF m c t = 0 → JR (N + 20) (coM m c t) (dsM w r 439905902964) c h t b r s0 past np) := by
  have n0 := hn 0 (by decide) (by decide)
  have n1 := hn 1 (by decide) (by decide)
  have n2 := hn 2 (by decide) (by decide)
  have n3 := hn 3 (by decide) (by decide)
  have n4 := hn 4 (by decide) (by decide)
  have f1 : fcF m c t = fflF m c (m (t + 2) 0) (m (t + 2) 1) (m (t + 2) 2) (m (t + 2) 3) (m (t + 2) 4) := by simp [fcF, hK]
  have f2 : coM m c t = putL m (c + 2) (flF (lay m (c + 2)) (m (t + 2) 0) (m (t + 2) 1) (m (t + 2) 2) (m (t + 2) 3) (m (t + 2) 4)) := by simp [coM, hK]
  have d1 : dsF w r 439905902964 = flF9 (w (r + 1) 2) (w (r + 16) 0) (w (r + 16) 1) (w (r + 16) 2) (w (r + 16) 3) (w (r + 16) 4) := by simp [dsF]
  have d2 : dsM w r 439905902964 = ptT (up w r 19 (ctT (tkT (trT w r) (w (r + 1) 2) (w (r + 16) 0)) 4 + 1)) r (flT (trT w r) (w (r + 1) 2) (w (r + 16) 0) (w (r + 16) 1) (w (r + 16) 2) (w (r + 16) 3) (w (r + 16) 4)) := by simp [dsM]
  rw [f1, f2, d1, d2, n0, n1, n2, n3, n4]
  obtain ⟨e, g⟩ := s_float O J hN (w (r + 16) 0) (w (r + 16) 1) (w (r + 16) 2) (w (r + 16) 3) (w (r + 16) 4)
  exact ⟨⟨fun z => absurd z (by decide), fun z => absurd z (by decide), fun _ z => (g (e ▸ z)).1, fun z => absurd z (by decide)⟩, by rw [e], fun z => (g z).2⟩
theorem s_5 (O : Od c h t p b q r) (J : JR N m w c h t b r s0 past np) (hN : 1000000 ≤ N ∧ N ≤ 10000000) (hK : m t 5 = 5) (hn : ∀ j : Int, 0 ≤ j → j < enN 5 → m (t + 2) j = w (r + 16) j) :
    dsO w r 427021005669 ∧ (dsF w r 427021005669 = 0 ↔ fcF m c t = 0) ∧ (fcF m c t = 0 → JR (N + 20) (coM m c t) (dsM w r 427021005669) c h t b r s0 past np) := by
  have n0 := hn 0 (by decide) (by decide)
  have f1 : fcF m c t = fpF m c (m (t + 2) 0) := by simp [fcF, hK]
  have f2 : coM m c t = putL m (c + 2) (tkF (lay m (c + 2)) (m (t + 2) 0)) := by simp [coM, hK]
  have d1 : dsF w r 427021005669 = clF (w (r + 1) 2) (w (r + 16) 0) := by simp [dsF]
  have d2 : dsM w r 427021005669 = ptT (up w r 19 (sxT (trT w r) (w (r + 16) 0))) r (tkT (trT w r) (w (r + 1) 2) (w (r + 16) 0)) := by simp [dsM]
  rw [f1, f2, d1, d2, n0]
  obtain ⟨e, g⟩ := s_close O J hN (w (r + 16) 0)
  exact ⟨⟨fun z => absurd z (by decide), fun z => absurd z (by decide), fun z => absurd z (by decide), fun _ z => (g (e ▸ z)).1⟩, by rw [e], fun z => (g z).2⟩
theorem s_6 (O : Od c h t p b q r) (J : JR N m w c h t b r s0 past np) (hN : 1000000 ≤ N ∧ N ≤ 10000000) (hK : m t 5 = 6) (hn : ∀ j : Int, 0 ≤ j → j < enN 6 → m (t + 2) j = w (r + 16) j) :
    dsO w r 495672455781 ∧ (dsF w r 495672455781 = 0 ↔ fcF m c t = 0) ∧ (fcF m c t = 0 → JR (N + 20) (coM m c t) (dsM w r 495672455781) c h t b r s0 past np) := by
  have n0 := hn 0 (by decide) (by decide)
  have n1 := hn 1 (by decide) (by decide)
  have f1 : fcF m c t = fshF m c (m (t + 2) 0) (m (t + 2) 1) := by simp [fcF, hK]
  have f2 : coM m c t = putL m (c + 2) (sL (lay m (c + 2)) 3 (gL (lay m (c + 2)) 0 (m (t + 2) 0)) (m (t + 2) 1)) := by simp [coM, hK]
  have d1 : dsF w r 495672455781 = wgF (trT w r) (w (r + 1) 2) (w (r + 16) 0) (w (r + 16) 1) := by simp [dsF]
  have d2 : dsM w r 495672455781 = ptT (up w r 19 (trT w r 3 (trT w r 9 (w (r + 16) 0)))) r (up (trT w r) 3 (trT w r 9 (w (r + 16) 0)) (w (r + 16) 1)) := by simp [dsM]
  rw [f1, f2, d1, d2, n0, n1]
  obtain ⟨e, g⟩ := s_share O J hN (w (r + 16) 0) (w (r + 16) 1)
  exact ⟨⟨fun z => absurd z (by decide), fun z => absurd z (by decide), fun z => absurd z (by decide), fun z => absurd z (by decide)⟩, by rw [e], g⟩
theorem s_7 (O : Od c h t p b q r) (J : JR N m w c h t b r s0 past np) (hN : 1000000 ≤ N ∧ N ≤ 10000000) (hK : m t 5 = 7) (hn : ∀ j : Int, 0 ≤ j → j < enN 7 → m (t + 2) j = w (r + 16) j) :
    dsO w r 1935767141 ∧ (dsF w r 1935767141 = 0 ↔ fcF m c t = 0) ∧ (fcF m c t = 0 → JR (N + 20) (coM m c t) (dsM w r 1935767141) c h t b r s0 past np) := by
  have n0 := hn 0 (by decide) (by decide)
  have f1 : fcF m c t = frF (m (t + 2) 0) 0 3 := by simp [fcF, hK]
  have f2 : coM m c t = kpM m c (m (t + 2) 0).toNat := by simp [coM, hK]
  have d1 : dsF w r 1935767141 = svF (w (r + 16) 0) := by simp [dsF]
  have d2 : dsM w r 1935767141 = svB w r (trT w r) (w (r + 16) 0) := by simp [dsM]
  rw [f1, f2, d1, d2, n0]
  refine ⟨⟨fun z => absurd z (by decide), fun z => absurd z (by decide), fun z => absurd z (by decide), fun z => absurd z (by decide)⟩, ?_, fun z => ?_⟩
  · unfold svF frF
    (repeat' split) <;> omega
  · have hx : 0 ≤ w (r + 16) 0 ∧ w (r + 16) 0 ≤ 3 := by
      unfold frF at z
      split at z
      · assumption
      · omega
    have g := s_save O J hN (j := (w (r + 16) 0).toNat) (by omega)
    rw [show (((w (r + 16) 0).toNat : Nat) : Int) = w (r + 16) 0 by omega] at g
    exact g
theorem s_8 (O : Od c h t p b q r) (J : JR N m w c h t b r s0 past np) (hN : 1000000 ≤ N ∧ N ≤ 10000000) (hK : m t 5 = 8) (hn : ∀ j : Int, 0 ≤ j → j < enN 8 → m (t + 2) j = w (r + 16) j) :
    dsO w r 1819238756 ∧ (dsF w r 1819238756 = 0 ↔ fcF m c t = 0) ∧ (fcF m c t = 0 → JR (N + 20) (coM m c t) (dsM w r 1819238756) c h t b r s0 past np) := by
  have n0 := hn 0 (by decide) (by decide)
  have f1 : fcF m c t = flF8 m c (m (t + 2) 0) := by simp [fcF, hK]
  have f2 : coM m c t = tpM m c (m (t + 2) 0).toNat := by simp [coM, hK]
  have d1 : dsF w r 1819238756 = brF w r (w (r + 16) 0) := by simp [dsF]
  have d2 : dsM w r 1819238756 = brB w r (w (r + 16) 0) := by simp [dsM]
  rw [f1, f2, d1, d2, n0]
  obtain ⟨e, g⟩ := s_back O J hN (w (r + 16) 0)
  exact ⟨⟨fun z => absurd z (by decide), fun z => absurd z (by decide), fun z => absurd z (by decide), fun z => absurd z (by decide)⟩, e, g⟩
theorem JR.step (O : Od c h t p b q r) (J : JR N m w c h t b r s0 past np) (hN : 1000000 ≤ N ∧ N ≤ 10000000) {K v : Int} (hK : m t 5 = K) (k1 : 1 ≤ K ∧ K ≤ 8) (hv : v = wcd K) (hn : ∀ j : Int, 0 ≤ j → j < enN K → m (t + 2) j = w (r + 16) j) :
    dsO w r v ∧ (dsF w r v = 0 ↔ fcF m c t = 0) ∧ (fcF m c t = 0 → JR (N + 20) (coM m c t) (dsM w r v) c h t b r s0 past np) := by
  have h8 : K = 1 ∨ K = 2 ∨ K = 3 ∨ K = 4 ∨ K = 5 ∨ K = 6 ∨ K = 7 ∨ K = 8 := by omega
  rcases h8 with e | e | e | e | e | e | e | e <;> subst e <;> subst hv
  · exact s_1 O J hN hK hn
  · exact s_2 O J hN hK hn
  · exact s_3 O J hN hK hn
  · exact s_4 O J hN hK hn
  · exact s_5 O J hN hK hn
  · exact s_6 O J hN hK hn
  · exact s_7 O J hN hK hn
  · exact s_8 O J hN hK hn
end S2
