/-! THE LAW OF p32: one turn -/
theorem two_pn (P x e : Int) (h2 : 2 ≤ P) (h5 : P ≤ 5) (hx : 0 ≤ x ∧ x < P) (he : 0 ≤ e ∧ e < P - 1) : (0 ≤ (x + 1 + e) % P ∧ (x + 1 + e) % P < P) ∧ x ≠ (x + 1 + e) % P := by
  have : P = 2 ∨ P = 3 ∨ P = 4 ∨ P = 5 := by omega
  rcases this with rfl | rfl | rfl | rfl <;> omega
section TD
variable {G : Gx} {l : Launch} {S : Sh} {n : Nat} {mu : Mem} {la : Lam} {c h t p b q w o : Nat} {z : Int32} {N : Int}
-- L_acts
theorem l_acts (hG : GP G) (hGN : GN G) (hGX : GX G) (hl9 : l.stackTraces = false) (hD : DoS S o c h t p b q) (O : Od c h t p b q w) (hL : LwS S w) (A : Wi N mu c h t p b w) (hN : 1000000 ≤ N ∧ N ≤ 10000000) :
    Ct G l yL_acts wsL_acts 9 1 6 [.ref o, .ref w, .ref (w + 1), .ref (w + 2), .ref (w + 3), .int z] S n mu la (Pw S la (N + 20) c h t p b w) := by
  have hg := hL.1
  have p5 := A.p5
  have np := A.lr.np
  have m13 := A.lr.m13 A.ly
  refine Ct.ofV (cc := cL_acts) (nL := 21) (ret := (some .boolean)) [some (.ref o), some (.ref w), some (.ref (w + 1)), some (.ref (w + 2)), some (.ref (w + 3)), some (.int z), none, none, none, none, none, none, none, none, none, none, none, none, none, none, none] hG (by decide) rfl (Nat.le_of_ble_eq_true rfl) rfl ?_
  rintro X rfl rfl C hcl hsl E
  have K : Tc X S mu N o c h t p b q w := ⟨hGN, hGX, hl9, hD, O, hL, A, hN⟩
  have rest : ∀ ww : Int, (0 ≤ ww ∧ ww < 100000) → 2 ≤ mu w 2 → V X 145 [some (.ref o), some (.ref w), some (.ref (w + 1)), some (.ref (w + 2)), some (.ref (w + 3)), some (.int z), some (.int (I32 ww)), none, none, none, none, none, none, none, none, none, none, none, none, none, none] [] S n mu la 0 0 := by
    intro ww hw h2
    refine V_iload C dL_acts_145 rfl ?_
    refine V_aload_n C dL_acts_147 rfl ?_
    refine V_iconst C dL_acts_148 ?_
    refine V_iald C dL_acts_149 hg (by first | assumption | decide) (by omega) ?_
    refine V_irem C dL_acts_150 (by omega) (by omega) ?_
    have hx : 0 ≤ ww % mu w 2 ∧ ww % mu w 2 < mu w 2 := ⟨Int.emod_nonneg _ (by omega), Int.emod_lt_of_pos _ (by omega)⟩
    generalize ww % mu w 2 = x at *
    refine V_istore C dL_acts_151 rfl (by decide) ?_
    refine V_iload C dL_acts_153 rfl ?_
    refine V_iconst C dL_acts_155 ?_
    refine V_iadd C dL_acts_156 ?_
    refine V_iload C dL_acts_157 rfl ?_
    refine V_iconst C dL_acts_159 ?_
    refine V_idiv C dL_acts_160 (by omega) (by omega) ?_
    refine V_aload_n C dL_acts_161 rfl ?_
    refine V_iconst C dL_acts_162 ?_
    refine V_iald C dL_acts_163 hg (by first | assumption | decide) (by omega) ?_
    refine V_iconst C dL_acts_164 ?_
    refine V_isub C dL_acts_165 ?_
    refine V_irem C dL_acts_166 (by omega) (by omega) ?_
    have he : 0 ≤ ww / 5 % (mu w 2 - 1) ∧ ww / 5 % (mu w 2 - 1) < mu w 2 - 1 := ⟨Int.emod_nonneg _ (by omega), Int.emod_lt_of_pos _ (by omega)⟩
    generalize ww / 5 % (mu w 2 - 1) = e at *
    refine V_iadd C dL_acts_167 ?_
    refine V_aload_n C dL_acts_168 rfl ?_
    refine V_iconst C dL_acts_169 ?_
    refine V_iald C dL_acts_170 hg (by first | assumption | decide) (by omega) ?_
    refine V_irem C dL_acts_171 (by omega) (by omega) ?_
    obtain ⟨hy, hxy⟩ := two_pn (mu w 2) x e h2 (by omega) hx he
    generalize (x + 1 + e) % mu w 2 = y at *
    refine V_istore C dL_acts_172 rfl (by decide) ?_
    refine V_aload_n C dL_acts_174 rfl ?_
    refine V_aload_n C dL_acts_175 rfl ?_
    refine V_aload_n C dL_acts_176 rfl ?_
    refine V_iload C dL_acts_177 rfl ?_
    refine V_callSD (nA := 4) C dL_acts_179 (l_state C.gp hL A.cw.2 ⟨hx.1, by omega⟩ ⟨m13.1, by omega⟩) gL_acts_L_state rfl (by decide +kernel) rfl (by decide) (by decide) (Nat.le_of_ble_eq_true rfl) ⟨by omega, by omega⟩ rfl ?_
    refine V_istore C dL_acts_182 rfl (by decide) ?_
    refine V_iload C dL_acts_184 rfl ?_
    refine V_bipush C dL_acts_186 (by decide +kernel) ?_
    refine V_callSD (nA := 2) C dL_acts_188 (l_low C.gp ⟨by omega, by omega⟩) gL_acts_L_low rfl (by decide +kernel) rfl (by decide) (by decide) (Nat.le_of_ble_eq_true rfl) ⟨by omega, by omega⟩ rfl ?_
    have hk := lowV_b z (n := 16) (by omega)
    generalize lowV z 16 = k at *
    have cas : k = 0 ∨ k = 1 ∨ k = 2 ∨ k = 3 ∨ k = 4 ∨ k = 5 ∨ k = 6 ∨ k = 7 ∨ k = 8 ∨ k = 9 ∨ k = 10 ∨ k = 11 ∨ k = 12 ∨ k = 13 ∨ k = 14 ∨ k = 15 := by omega
    clear hk
    rcases cas with rfl | rfl | rfl | rfl | rfl | rfl | rfl | rfl | rfl | rfl | rfl | rfl | rfl | rfl | rfl | rfl
    · refine V_tableIn C 264 dL_acts_191 (by omega) (by omega) (by omega) rfl (by decide) ?_
      exact t_0 C E hcl hsl K hw
    · refine V_tableIn C 348 dL_acts_191 (by omega) (by omega) (by omega) rfl (by decide) ?_
      exact t_1 C E hcl hsl K hx hw
    · refine V_tableIn C 433 dL_acts_191 (by omega) (by omega) (by omega) rfl (by decide) ?_
      exact t_2 C E hcl hsl K hx hy hxy hw
    · refine V_tableIn C 433 dL_acts_191 (by omega) (by omega) (by omega) rfl (by decide) ?_
      exact t_2 C E hcl hsl K hx hy hxy hw
    · refine V_tableIn C 433 dL_acts_191 (by omega) (by omega) (by omega) rfl (by decide) ?_
      exact t_2 C E hcl hsl K hx hy hxy hw
    · refine V_tableIn C 433 dL_acts_191 (by omega) (by omega) (by omega) rfl (by decide) ?_
      exact t_2 C E hcl hsl K hx hy hxy hw
    · refine V_tableIn C 523 dL_acts_191 (by omega) (by omega) (by omega) rfl (by decide) ?_
      exact t_6 C E hcl hsl K hx hw
    · refine V_tableIn C 523 dL_acts_191 (by omega) (by omega) (by omega) rfl (by decide) ?_
      exact t_6 C E hcl hsl K hx hw
    · refine V_tableIn C 523 dL_acts_191 (by omega) (by omega) (by omega) rfl (by decide) ?_
      exact t_6 C E hcl hsl K hx hw
    · refine V_tableIn C 562 dL_acts_191 (by omega) (by omega) (by omega) rfl (by decide) ?_
      exact t_9 C E hcl hsl K hx hw
    · refine V_tableIn C 727 dL_acts_191 (by omega) (by omega) (by omega) rfl (by decide) ?_
      exact t_10 C E hcl hsl K hx rfl hw
    · refine V_tableIn C 840 dL_acts_191 (by omega) (by omega) (by omega) rfl (by decide) ?_
      exact t_11 C E hcl hsl K hx rfl hw
    · refine V_tableIn C 896 dL_acts_191 (by omega) (by omega) (by omega) rfl (by decide) ?_
      exact t_12 C E hcl hsl K hx rfl hw
    · refine V_tableIn C 1114 dL_acts_191 (by omega) (by omega) (by omega) rfl (by decide) ?_
      exact t_13 C E hcl hsl K hx hw
    · refine V_tableIn C 1114 dL_acts_191 (by omega) (by omega) (by omega) rfl (by decide) ?_
      exact t_13 C E hcl hsl K hx hw
    · refine V_tableOut C 1233 dL_acts_191 (by omega) (by omega) (by decide) ?_
      exact t_15 C E hcl hsl K hx rfl hw
  refine V_iload C dL_acts_0 rfl ?_
  refine V_iconst C dL_acts_2 ?_
  refine V_ishr C dL_acts_3 ?_
  intro v9
  refine V_ldcI C (v := 100000) dL_acts_4 (by decide +kernel) ?_
  refine V_callSD (nA := 2) C dL_acts_6 (l_low C.gp ⟨by omega, by omega⟩) gL_acts_L_low rfl (by decide +kernel) rfl (by decide) (by decide) (Nat.le_of_ble_eq_true rfl) ⟨by omega, by omega⟩ rfl ?_
  have hw := lowV_b v9 (n := 100000) (by omega)
  generalize lowV v9 100000 = ww at *
  refine V_istore C dL_acts_9 rfl (by decide) ?_
  refine V_aload_n C dL_acts_11 rfl ?_
  refine V_iconst C dL_acts_12 ?_
  refine V_iald C dL_acts_13 hg (by first | assumption | decide) (by omega) ?_
  refine V_iconst C dL_acts_14 ?_
  refine V_icmp_lt C 35 dL_acts_15 (by decide) (by omega) (by omega) (fun c1 => ?_) (fun c1 => ?_)
  · exact t_add C E hcl hsl K (by omega) hw
  · refine V_iload C dL_acts_18 rfl ?_
    refine V_bipush C dL_acts_20 (by decide +kernel) ?_
    refine V_callSD (nA := 2) C dL_acts_22 (l_low C.gp ⟨by omega, by omega⟩) gL_acts_L_low rfl (by decide +kernel) rfl (by decide) (by decide) (Nat.le_of_ble_eq_true rfl) ⟨by omega, by omega⟩ rfl ?_
    have hk := lowV_b z (n := 32) (by omega)
    generalize lowV z 32 = k at *
    refine V_if_ne C 145 dL_acts_25 (by decide) (by omega) (fun c2 => ?_) (fun c2 => ?_)
    · exact rest ww hw (by omega)
    · refine V_aload_n C dL_acts_28 rfl ?_
      refine V_iconst C dL_acts_29 ?_
      refine V_iald C dL_acts_30 hg (by first | assumption | decide) (by omega) ?_
      refine V_iconst C dL_acts_31 ?_
      refine V_icmp_ge C 145 dL_acts_32 (by decide) (by omega) (by omega) (fun c3 => ?_) (fun c3 => ?_)
      · exact rest ww hw (by omega)
      · exact t_add C E hcl hsl K (by omega) hw
end TD
