/-! THE LAW OF p32: from its first instruction to its last -/
theorem DoS.to {S S' : Sh} {z : Nat} (h9 : DoS S z (z + 1) (z + 50) (z + 248) (z + 251) (z + 265) (z + 274)) (T3 : ∀ x y, x < z + 288 → hasS S x y → hasS S' x y) : DoS S' z (z + 1) (z + 50) (z + 248) (z + 251) (z + 265) (z + 274) := by
  obtain ⟨d1, d2, d3, d4, d5, d6, d7, d8⟩ := h9
  exact ⟨T3 _ _ (by omega) d1, d2.of fun x y h1 h2 => T3 x y (by omega), d3.of fun x y h1 h2 => T3 x y (by omega), d4.of fun x y h1 h2 => T3 x y (by omega), d5.of fun x y h1 h2 => T3 x y (by omega), d6.of fun x y h1 h2 => T3 x y (by omega), d7.of fun x y h1 h2 => T3 x y (by omega), d8⟩
theorem lm_8 : ∀ w9 ∈ u_ws RX8 TX8 6, w9 ∈ wsL_law := fun _ h => List.mem_append_left _ (List.mem_append_left _ (List.mem_append_left _ (ow_8 _ h)))
theorem lq_in {w9 : Cond} (h : w9 ∈ wsL_law0_r1) : w9 ∈ wsL_law := List.mem_append_left _ (List.mem_append_left _ (List.mem_append_left _ (by unfold wsL_law0; simp only [List.mem_append, h, true_or])))
section LA9
variable {X : Cx} {b9 M : Nat} {xs : Nat → Int32}
-- L_law
theorem law_all (C : Ok X cL_law wsL_law RL (some .boolean) 13 9) (hS : GS (xG X) b9 M xs) (hM : M ≤ 260) (hAO : GAO (xG X)) (hGX : GX (xG X)) (hGN : GN (xG X)) (hl9 : (xL X).stackTraces = false) (hR : 1000 ≤ (xR X).cells ∧ 20000 ≤ (xR X).slots)
    (fin : ∀ (rr : Rg) (S : Sh) (n : Nat) (mu : Mem) (la : Lam) (k sl : Nat), k ≤ (xR X).cells → sl ≤ (xR X).slots → V X 179 rr [.int (I32 1)] S n mu la k sl) (mu0 : Mem) (la0 : Lam) :
    V X 0 [some (.ref b9), none, none, none, none, none, none, none, none] [] ([], fun _ => .inl (0, 0)) (gZ (xG X)) mu0 la0 0 0 := by
  obtain ⟨z, ez⟩ : ∃ z : Nat, z = gZ (xG X) := ⟨_, rfl⟩
  rw [← ez]
  refine V_newo C (ci := 6) (ks := ksX8) dL_law_0 rfl lm_8 tyX8 tyX8_ok (lq_in (by decide +kernel)) (lq_in (by decide +kernel)) (lq_in (by decide +kernel)) rfl ⟨by omega, by omega⟩ ?_
  refine V_dup C dL_law_3 rfl ?_
  refine V_callI (nA := 0) C dL_law_4 (i_X8 C.gp hAO (hasS_new _ _ _)) gL_law_X8_init (lq_in (by decide +kernel)) (lq_in (by decide +kernel)) (lq_in (by decide +kernel)) rfl rfl (by decide +kernel) rfl (by decide) (by decide) (Nat.le_of_ble_eq_true rfl) ⟨by omega, by omega⟩ rfl ?_
  rintro o1 S1 n1 mu1 la1 ⟨rfl, rfl, e1, m1, D1, b1, b2, b3, b4, b5, b6, b7, b8, b9'⟩
  have hB : Born z mu1 := ⟨b1, b2, b3, b4, b5, b6, b7, b8, b9'⟩
  refine V_mem (mu' := mwS z) (fun a h1 h2 => ?_) ?_
  · have e := same_all (G := xG X) (la := la1) D1 hB (a - z) (by omega)
    rw [show z + (a - z) = a by omega] at e
    exact e
  refine V_astore_n C dL_law_7 rfl (by decide) ?_
  refine V_iconst C dL_law_8 ?_
  refine V_newa C (m := 5) 5 dL_law_9 (lq_in (by decide +kernel)) rfl (by decide) ⟨by omega, by omega⟩ ?_
  refine V_astore_n C dL_law_11 rfl (by decide) ?_
  refine V_bipush C dL_law_12 (by decide +kernel) ?_
  refine V_newa C (m := 48) 48 dL_law_14 (lq_in (by decide +kernel)) rfl (by decide) ⟨by omega, by omega⟩ ?_
  refine V_astore_n C dL_law_16 rfl (by decide) ?_
  refine V_bipush C dL_law_17 (by decide +kernel) ?_
  refine V_newa C (m := 25) 25 dL_law_19 (lq_in (by decide +kernel)) rfl (by decide) ⟨by omega, by omega⟩ ?_
  refine V_astore C dL_law_21 rfl (by decide) ?_
  refine V_bipush C dL_law_23 (by decide +kernel) ?_
  refine V_newa C (m := 25) 25 dL_law_25 (lq_in (by decide +kernel)) rfl (by decide) ⟨by omega, by omega⟩ ?_
  refine V_astore C dL_law_27 rfl (by decide) ?_
  obtain ⟨w, ew⟩ : ∃ w, w = z + 288 := ⟨_, rfl⟩
  obtain ⟨S4, eS⟩ : ∃ S4, S4 = grow (grow (grow (grow S1 (z + 288) (.inl (0, 5))) (z + 288 + 1) (.inl (0, 48))) (z + 288 + 1 + 1) (.inl (0, 25))) (z + 288 + 1 + 1 + 1) (.inl (0, 25)) := ⟨_, rfl⟩
  have T3 : ∀ x y, x < z + 288 → hasS S1 x y → hasS S4 x y := fun x y h1 h2 => by
    rw [eS]
    exact hasS_grow (hasS_grow (hasS_grow (hasS_grow h2 (by omega)) (by omega)) (by omega)) (by omega)
  have hD : DoS S4 z (z + 1) (z + 50) (z + 248) (z + 251) (z + 265) (z + 274) := DoS.to D1 T3
  have hL : LwS S4 (z + 288) := by
    rw [eS]
    refine ⟨?_, ?_, ?_, ?_⟩
    · exact hasS_grow (hasS_grow (hasS_grow (hasS_new _ _ _) (by omega)) (by omega)) (by omega)
    · exact hasS_grow (hasS_grow (hasS_new _ _ _) (by omega)) (by omega)
    · exact hasS_grow (hasS_new _ _ _) (by omega)
    · exact hasS_new _ _ _
  obtain ⟨m4, em⟩ : ∃ m4, m4 = zm (zm (zm (zm (mwS z) (z + 288)) (z + 288 + 1)) (z + 288 + 1 + 1)) (z + 288 + 1 + 1 + 1) := ⟨_, rfl⟩
  rw [← eS, ← em]
  clear ew
  have z4 : ∀ (x : Nat) (i : Int), x < z + 288 → m4 x i = mwS z x i := fun x i hx => by rw [em, zm_a _ _ (by omega), zm_a _ _ (by omega), zm_a _ _ (by omega), zm_a _ _ (by omega)]
  have z5 : ∀ i : Int, m4 (z + 288) i = 0 := fun i => by rw [em, zm_a _ _ (by omega), zm_a _ _ (by omega), zm_a _ _ (by omega), zm_s]
  have R4 : R32 m4 := fun x i => by
    have hb := MV_b (x - z) i
    have hm : mwS z x i = MV (x - z) i := rfl
    rw [em]
    unfold zm
    (repeat' split) <;> omega
  have R5 : R32 (up (up m4 (z + 288) 0 100) (z + 288) 1 60) := R32_up (R32_up R4 _ _ ⟨by omega, by omega⟩) _ _ ⟨by omega, by omega⟩
  have A : Wi 1000000 (up (up m4 (z + 288) 0 100) (z + 288) 1 60) (z + 1) (z + 50) (z + 248) (z + 251) (z + 265) (z + 288) := by
    refine Wi_start (fun x i hx => ?_) R5 ⟨?_, ?_⟩ (fun i hi => ?_)
    · rw [up_a _ _ _ _ (by omega), up_a _ _ _ _ (by omega)]; exact z4 x i hx
    · rw [up_e, if_neg (by omega), up_s]
    · exact up_s _ _ _ _
    · rw [up_e, if_neg (by omega), up_e, if_neg (by omega)]; exact z5 i
  have hg := hL.1
  refine V_aload_n C dL_law_29 rfl ?_
  refine V_iconst C dL_law_30 ?_
  refine V_bipush C dL_law_31 (by decide +kernel) ?_
  refine V_iast C dL_law_33 hg (by first | assumption | decide) (by omega) ?_
  refine V_aload_n C dL_law_34 rfl ?_
  refine V_iconst C dL_law_35 ?_
  refine V_bipush C dL_law_36 (by decide +kernel) ?_
  refine V_iast C dL_law_38 hg (by first | assumption | decide) (by omega) ?_
  generalize up (up m4 (z + 288) 0 100) (z + 288) 1 60 = m5 at *
  have W5 := A.cw.wo (show 0 ≤ (1000000 : Int) ∧ (1000000 : Int) ≤ 16000000 from ⟨by omega, by omega⟩)
  have Y : Lx X S4 xs b9 M z (z + 1) (z + 50) (z + 248) (z + 251) (z + 265) (z + 274) (z + 288) := ⟨C, hS, hM, hGN, hGX, hl9, hD, Od_start z, hL⟩
  rw [show z + 288 + 1 + 1 + 1 = z + 288 + 3 from rfl, show z + 288 + 1 + 1 = z + 288 + 2 from rfl]
  refine V_aload_n C dL_law_39 rfl ?_
  refine V_aload_n C dL_law_40 rfl ?_
  refine V_aload_n C dL_law_41 rfl ?_
  refine V_aload C dL_law_42 rfl ?_
  refine V_aload C dL_law_44 rfl ?_
  refine V_callSD (nA := 5) C dL_law_46 (l_soOk C.gp hD W5 hL A.al) gL_law_L_isSo rfl (by decide +kernel) rfl (by decide) (by decide) (Nat.le_of_ble_eq_true rfl) ⟨by omega, by omega⟩ rfl ?_
  refine V_istore C dL_law_49 rfl (by decide) ?_
  refine V_bipush C dL_law_51 (by decide +kernel) ?_
  refine V_aload_n C dL_law_53 rfl ?_
  refine V_iconst C dL_law_54 ?_
  refine V_callSD (nA := 2) C dL_law_55 (l_cell C.gp hS hM ⟨by omega, by omega⟩) gL_law_L_cell rfl (by decide +kernel) rfl (by decide) (by decide) (Nat.le_of_ble_eq_true rfl) ⟨by omega, by omega⟩ rfl ?_
  refine V_bipush C dL_law_58 (by decide +kernel) ?_
  refine V_callSD (nA := 2) C dL_law_60 (l_low C.gp ⟨by omega, by omega⟩) gL_law_L_low rfl (by decide +kernel) rfl (by decide) (by decide) (Nat.le_of_ble_eq_true rfl) ⟨by omega, by omega⟩ rfl ?_
  have hb := lowV_b (celV xs M 0) (n := 70) (by omega)
  generalize lowV (celV xs M 0) 70 = T at *
  refine V_iadd C dL_law_63 ?_
  refine V_istore C dL_law_64 rfl (by decide) ?_
  refine V_iconst C dL_law_66 ?_
  refine V_istore C dL_law_67 rfl (by decide) ?_
  refine law_turns Y (T := 10 + T) ⟨by omega, by omega⟩ (k0 := 0 + 1 + 287 + 1 + 1 + 1 + 1) (s0 := 0 + 6 + 10333 + 5 + 48 + 25 + 25) ⟨by omega, by omega⟩ fin _ 80 0 (by omega) (by omega) _ m5 ?_
  rw [show (1000000 : Int) + 20 * ((0 : Nat) : Int) = 1000000 by omega]
  exact A
end LA9
