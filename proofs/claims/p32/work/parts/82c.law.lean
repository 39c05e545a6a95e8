/-! THE LAW OF p32: its walk -/
def Lx (X : Cx) (S : Sh) (xs : Nat → Int32) (b9 M o c h t p b q w : Nat) : Prop := Ok X cL_law wsL_law RL (some .boolean) 13 9 ∧ GS (xG X) b9 M xs ∧ M ≤ 260 ∧ GN (xG X) ∧ GX (xG X) ∧ (xL X).stackTraces = false ∧ DoS S o c h t p b q ∧ Od c h t p b q w ∧ LwS S w
section LP9
variable {X : Cx} {S : Sh} {xs : Nat → Int32} {b9 M o c h t p b q w : Nat}
-- L_law
theorem law_end (Y : Lx X S xs b9 M o c h t p b q w) (fin : ∀ (rr : Rg) (S : Sh) (n : Nat) (mu : Mem) (la : Lam) (k sl : Nat), k ≤ (xR X).cells → sl ≤ (xR X).slots → V X 179 rr [.int (I32 1)] S n mu la k sl) {T i N : Int} {n : Nat} {mu : Mem} {la : Lam} {k sl : Nat} (A : Wi N mu c h t p b w) (hN : 1000000 ≤ N ∧ N ≤ 10000000) (hk : k + 3 ≤ (xR X).cells ∧ sl + 18 ≤ (xR X).slots) :
    V X 135 [some (.ref b9), some (.ref o), some (.ref w), some (.ref (w + 1)), some (.ref (w + 2)), some (.ref (w + 3)), some (.int (I32 1)), some (.int (I32 T)), some (.int (I32 i))] [] S n mu la k sl := by
  obtain ⟨C, hS, hM, gn, gx, l9, D, O, hL⟩ := Y
  have hg := hL.1
  have p5 := A.p5
  have np := A.lr.np
  have W := A.cw.wo (show 0 ≤ N ∧ N ≤ 16000000 from ⟨by omega, by omega⟩)
  have e0 : pnF mu c (mu w 2) = 0 := if_neg (by omega)
  have f1 : ppF mu c (mu w 2) 0 = 1 := by unfold ppF; rw [e0]; exact if_neg (by decide)
  have f2 : fiF (-1) = 2 := by decide
  have f3 : frF 12 0 11 = 2 := by decide
  have x1 := x_pane (l := xL X) (n := n) (la := la) (S := S) C.gp gx l9 D W (x := mu w 2) (w := 0) ⟨by omega, by omega⟩ ⟨by omega, by omega⟩ (Or.inl f1)
  rw [f1] at x1
  have x2 := fun n2 : Nat => x_group (l := xL X) (n := n2) (mu := mu) (la := la) (S := S) (a := o) C.gp gx l9 (i := -1) ⟨by omega, by omega⟩ (Or.inr (Or.inl f2))
  rw [f2] at x2
  have x3 := fun n2 : Nat => x_whole (l := xL X) (n := n2) (mu := mu) (la := la) (S := S) (a := o) C.gp gx l9 (w := 12) ⟨by omega, by omega⟩ (Or.inr (Or.inl f3))
  rw [f3] at x3
  refine V_iload C dL_law_135 rfl ?_
  refine V_if_eq C 178 dL_law_137 (by decide) (by omega) (fun c0 => ?_) (fun c0 => ?_)
  · exact absurd c0 (by decide)
  refine V_aload_n C dL_law_140 rfl ?_
  refine V_aload_n C dL_law_141 rfl ?_
  refine V_iconst C dL_law_142 ?_
  refine V_iald C dL_law_143 hg (by first | assumption | decide) (by omega) ?_
  refine V_iconst C dL_law_144 ?_
  refine V_callSHQ (nA := 3) C dL_law_145 (L_paneOf_x1 C.gp gn D.1 x1) gL_law_L_paneOf rfl (by decide +kernel) rfl (by decide) (by decide) (Nat.le_of_ble_eq_true rfl) ⟨by omega, by omega⟩ rfl ?_
  intro n1
  refine V_ldcI C (v := -10000001) dL_law_148 (by decide +kernel) ?_
  refine V_icmp_ne C 178 dL_law_150 (by decide) (by omega) (by omega) (fun c1 => ?_) (fun c1 => ?_)
  · exact absurd rfl c1
  refine V_aload_n C dL_law_153 rfl ?_
  refine V_iconst C dL_law_154 ?_
  refine V_callSHQ (nA := 2) C dL_law_155 (L_groupOf_x2 C.gp gn D.1 (x2 n1)) gL_law_L_groupOf rfl (by decide +kernel) rfl (by decide) (by decide) (Nat.le_of_ble_eq_true rfl) ⟨by omega, by omega⟩ rfl ?_
  intro n2
  refine V_ldcI C (v := -10000002) dL_law_158 (by decide +kernel) ?_
  refine V_icmp_ne C 178 dL_law_160 (by decide) (by omega) (by omega) (fun c2 => ?_) (fun c2 => ?_)
  · exact absurd rfl c2
  refine V_aload_n C dL_law_163 rfl ?_
  refine V_bipush C dL_law_164 (by decide +kernel) ?_
  refine V_callSHQ (nA := 2) C dL_law_166 (L_wholeOf_x2 C.gp gn D.1 (x3 n2)) gL_law_L_wholeOf rfl (by decide +kernel) rfl (by decide) (by decide) (Nat.le_of_ble_eq_true rfl) ⟨by omega, by omega⟩ rfl ?_
  intro n3
  refine V_ldcI C (v := -10000002) dL_law_169 (by decide +kernel) ?_
  refine V_icmp_ne C 178 dL_law_171 (by decide) (by omega) (by omega) (fun c3 => ?_) (fun c3 => ?_)
  · exact absurd rfl c3
  refine V_iconst C dL_law_174 ?_
  refine V_goto C 179 dL_law_175 (by decide) ?_
  exact fin _ _ _ _ _ _ _ (by omega) (by omega)
theorem law_turns (Y : Lx X S xs b9 M o c h t p b q w) {T : Int} (hT : 0 ≤ T ∧ T ≤ 80) {k0 s0 : Nat} (hk : k0 + 100 ≤ (xR X).cells ∧ s0 + 600 ≤ (xR X).slots)
    (fin : ∀ (rr : Rg) (S : Sh) (n : Nat) (mu : Mem) (la : Lam) (k sl : Nat), k ≤ (xR X).cells → sl ≤ (xR X).slots → V X 179 rr [.int (I32 1)] S n mu la k sl) (la : Lam) :
    ∀ (d j : Nat), T ≤ (j : Int) + d → j ≤ 80 → ∀ (n : Nat) (mu : Mem), Wi (1000000 + 20 * (j : Int)) mu c h t p b w →
      V X 69 [some (.ref b9), some (.ref o), some (.ref w), some (.ref (w + 1)), some (.ref (w + 2)), some (.ref (w + 3)), some (.int (I32 1)), some (.int (I32 T)), some (.int (I32 (j : Int)))] [] S n mu la (k0 + j) (s0 + 6 * j) := by
  intro d
  induction d with
  | zero =>
    intro j h1 h2 n mu A
    have C := Y.1
    refine V_iload C dL_law_69 rfl ?_
    refine V_iload C dL_law_71 rfl ?_
    refine V_icmp_ge C 135 dL_law_73 (by decide) (by omega) (by omega) (fun c1 => ?_) (fun c1 => ?_)
    · exact law_end Y fin A ⟨by omega, by omega⟩ ⟨by omega, by omega⟩
    · omega
  | succ d ih =>
    intro j h1 h2 n mu A
    have Y' := Y
    obtain ⟨C, hS, hM, gn, gx, l9, D, O, hL⟩ := Y'
    refine V_iload C dL_law_69 rfl ?_
    refine V_iload C dL_law_71 rfl ?_
    refine V_icmp_ge C 135 dL_law_73 (by decide) (by omega) (by omega) (fun c1 => ?_) (fun c1 => ?_)
    · exact law_end Y fin A ⟨by omega, by omega⟩ ⟨by omega, by omega⟩
    refine V_iload C dL_law_76 rfl ?_
    refine V_if_eq C 135 dL_law_78 (by decide) (by omega) (fun c2 => ?_) (fun c2 => ?_)
    · exact absurd c2 (by decide)
    refine V_aload_n C dL_law_81 rfl ?_
    refine V_aload_n C dL_law_82 rfl ?_
    refine V_aload_n C dL_law_83 rfl ?_
    refine V_aload C dL_law_84 rfl ?_
    refine V_aload C dL_law_86 rfl ?_
    refine V_aload_n C dL_law_88 rfl ?_
    refine V_iconst C dL_law_89 ?_
    refine V_iload C dL_law_90 rfl ?_
    refine V_iadd C dL_law_92 ?_
    refine V_callSD (nA := 2) C dL_law_93 (l_cell C.gp hS hM ⟨by omega, by omega⟩) gL_law_L_cell rfl (by decide +kernel) rfl (by decide) (by decide) (Nat.le_of_ble_eq_true rfl) ⟨by omega, by omega⟩ rfl ?_
    refine V_sipush C dL_law_96 (by decide +kernel) ?_
    refine V_iload C dL_law_99 rfl ?_
    refine V_imul C dL_law_101 ?_
    refine V_ixor C dL_law_102 ?_
    refine V_callS2 (nA := 6) C dL_law_103 (l_acts C.gp gn gx l9 D O hL A ⟨by omega, by omega⟩) gL_law_L_acts rfl (by decide +kernel) rfl (by decide) (by decide) (Nat.le_of_ble_eq_true rfl) ⟨by omega, by omega⟩ rfl ?_
    rintro o1 S1 n1 mu1 la1 ⟨rfl, rfl, rfl, A1⟩
    refine V_if_eq C 126 dL_law_106 (by decide) (by omega) (fun c3 => ?_) (fun c3 => ?_)
    · exact absurd c3 (by decide)
    have W1 := A1.cw.wo ⟨by omega, by omega⟩
    refine V_aload_n C dL_law_109 rfl ?_
    refine V_aload_n C dL_law_110 rfl ?_
    refine V_aload_n C dL_law_111 rfl ?_
    refine V_aload C dL_law_112 rfl ?_
    refine V_aload C dL_law_114 rfl ?_
    refine V_callSD (nA := 5) C dL_law_116 (l_soOk C.gp D W1 hL A1.al) gL_law_L_isSo rfl (by decide +kernel) rfl (by decide) (by decide) (Nat.le_of_ble_eq_true rfl) ⟨by omega, by omega⟩ rfl ?_
    refine V_if_eq C 126 dL_law_119 (by decide) (by omega) (fun c4 => ?_) (fun c4 => ?_)
    · exact absurd c4 (by decide)
    refine V_iconst C dL_law_122 ?_
    refine V_goto C 127 dL_law_123 (by decide) ?_
    refine V_istore C dL_law_127 rfl (by decide) ?_
    refine V_iinc C dL_law_129 rfl rfl (by decide) ?_
    refine V_goto C 69 dL_law_132 (by decide) ?_
    have e := ih (j + 1) (by omega) (by omega) n1 mu1 (by rw [show (1000000 : Int) + 20 * ((j + 1 : Nat) : Int) = 1000000 + 20 * (j : Int) + 20 by omega]; exact A1)
    rw [show ((j + 1 : Nat) : Int) = (j : Int) + 1 by omega] at e
    exact e
end LP9
