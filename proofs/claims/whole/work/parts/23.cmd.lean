/-! DockTree: texts of commands -/
def NB (N : Int → Int) : Prop := ∀ j, -2147483648 ≤ N j ∧ N j ≤ 2147483647
theorem dgG_vb (mu : Mem) (t : Nat) : ∀ (d : Nat) (c v : Int), 0 ≤ v → 0 ≤ (dgG mu t d c v).2 ∧ (dgG mu t d c v).2 + 1 ≤ (v + 1) * 10 ^ d
  | 0, c, v, h => by simp only [dgG]; omega
  | d + 1, c, v, h => by
    have hp : (1 : Int) ≤ 10 ^ d := by have := Int.pow_pos (n := 10) (m := d) (by decide); omega
    rw [dgG]
    split
    · rename_i z
      have h2 := dgG_vb mu t d (c + 1) (10 * v + tH mu t c - 48) (by omega)
      refine ⟨h2.1, Int.le_trans h2.2 ?_⟩
      rw [Int.pow_succ, Int.mul_comm (10 ^ d) 10, ← Int.mul_assoc]
      exact Int.mul_le_mul_of_nonneg_right (by omega) (by omega)
    · refine ⟨h, ?_⟩
      have h3 : (v + 1) * 1 ≤ (v + 1) * 10 ^ (d + 1) := Int.mul_le_mul_of_nonneg_left (by
        rw [Int.pow_succ]; omega) (by omega)
      dsimp only
      omega
theorem rmF_N (mu : Mem) (t : Nat) (i c : Int) {N : Int → Int} (h : NB N) : NB (rmF mu t i c N).2.2 := by
  unfold rmF
  split
  · intro j
    have := dgG_vb mu t 3 (skF mu t (c + 1)) 0 (by omega)
    have := h j
    dsimp only
    split <;> omega
  · exact h
theorem rlG_N (mu : Mem) (t : Nat) : ∀ (d : Nat) (i c f : Int) {N : Int → Int}, NB N → NB (rlG mu t d i c f N).2.2
  | 0, i, c, f, N, h => h
  | d + 1, i, c, f, N, h => by
    rw [rlG]
    split
    · exact rlG_N mu t d _ _ _ (rmF_N mu t i c h)
    · exact h
theorem rnA_N (mu : Mem) (t : Nat) (k : Int) {x : Int × Int × (Int → Int)} (h : NB x.2.2) : NB (rnA mu t k x).2.2.2.2 := by
  unfold rnA
  split
  · split
    · exact h
    · exact h
  · exact h
theorem rnF_N (mu : Mem) (t : Nat) (c k : Int) {N : Int → Int} (h : NB N) : NB (rnF mu t c k N).2.2.2.2 := by
  unfold rnF
  split
  · exact h
  · exact rnA_N _ _ _ (rlG_N mu t _ _ _ _ h)
theorem ftaG_b (mu : Mem) (t : Nat) : ∀ (d : Nat) (x : Tx), (0 ≤ x.1 ∧ x.1 ≤ mu t 2) → (-1 ≤ x.2.1 ∧ x.2.1 ≤ mu t 2) → (0 ≤ x.2.2.1 ∧ x.2.2.1 ≤ 8) → NB x.2.2.2 →
    (0 ≤ (ftaG mu t d x).1 ∧ (ftaG mu t d x).1 ≤ mu t 2) ∧ (-1 ≤ (ftaG mu t d x).2.1 ∧ (ftaG mu t d x).2.1 ≤ mu t 2) ∧ (0 ≤ (ftaG mu t d x).2.2.1 ∧ (ftaG mu t d x).2.2.1 ≤ 8) ∧ NB (ftaG mu t d x).2.2.2
  | 0, x, h1, h2, h3, h4 => ⟨h1, h2, h3, h4⟩
  | d + 1, x, h1, h2, h3, h4 => by
    have b := rnF_b mu t x.2.2.1 x.2.2.2 h1 h3
    have bN := rnF_N mu t x.1 x.2.2.1 h4
    rw [ftaG]
    split
    · exact ftaG_b mu t d _ b.1 b.2.2.2.2 b.2.1 bN
    · exact ⟨b.1, b.2.2.2.2, b.2.1, bN⟩
theorem ftaF_b (mu : Mem) (t : Nat) {k : Int} {N : Int → Int} (h : 0 ≤ mu t 2) (hk : 0 ≤ k ∧ k ≤ 8) (hN : NB N) :
    (0 ≤ (ftaF mu t k N).1 ∧ (ftaF mu t k N).1 ≤ mu t 2) ∧ (-1 ≤ (ftaF mu t k N).2.1 ∧ (ftaF mu t k N).2.1 ≤ mu t 2) ∧ (0 ≤ (ftaF mu t k N).2.2.1 ∧ (ftaF mu t k N).2.2.1 ≤ 8) ∧ NB (ftaF mu t k N).2.2.2 :=
  ftaG_b mu t 150 (0, -1, k, N) ⟨Int.le_refl 0, h⟩ ⟨Int.le_refl (-1), by show (-1 : Int) ≤ _; omega⟩ hk hN
theorem R32_tx {mu : Mem} (h : R32 mu) (t : Nat) {c f k : Int} {N : Int → Int} (hc : -2147483648 ≤ c ∧ c ≤ 2147483647) (hf : -2147483648 ≤ f ∧ f ≤ 2147483647) (hk : -2147483648 ≤ k ∧ k ≤ 2147483647) (hN : NB N) : R32 (txM mu t c f k N) := fun a i => by
  unfold txM
  (repeat' split) <;> first | assumption | exact hN i | exact h a i
theorem lay_tx {mu : Mem} {t : Nat} {c f k : Int} {N : Int → Int} {b : Nat} (h : b + 9 ≤ t ∨ t + 3 ≤ b) : lay (txM mu t c f k N) b = lay mu b := by
  funext w i
  unfold lay txM
  split
  · rw [if_neg (by omega), if_neg (by omega)]
  · rfl
theorem tx_off {mu : Mem} {t : Nat} {c f k : Int} {N : Int → Int} {a : Nat} (h : a < t ∨ t + 2 < a) (i : Int) : txM mu t c f k N a i = mu a i := by
  unfold txM
  rw [if_neg (by omega), if_neg (by omega)]
theorem tx_i {mu : Mem} {t : Nat} {c f k : Int} {N : Int → Int} {i : Int} (h : i < 3) : txM mu t c f k N t i = mu t i := by
  unfold txM
  rw [if_pos rfl, if_neg (by omega), if_neg (by omega), if_neg (by omega)]
theorem Wo_tx {mu : Mem} {a c h t p b q : Nat} {S : Sh} (hD : DoS S a c h t p b q) (hW : Wo mu c h t p) {u f k : Int} {N : Int → Int} (hu : -2147483648 ≤ u ∧ u ≤ 2147483647) (hf : -2147483648 ≤ f ∧ f ≤ 2147483647) (hk : -2147483648 ≤ k ∧ k ≤ 2147483647) (hN : NB N) : Wo (txM mu t u f k N) c h t p := by
  have dj := hD.2.2.2.2.2.2.2
  obtain ⟨w1, w2, w3, w4, w5, w6, w7⟩ := hW
  refine ⟨R32_tx w1 t hu hf hk hN, by rw [lay_tx (by omega)]; exact w2, ?_, ?_, ?_, ?_, ?_⟩
  · rw [tx_off (by omega)]; exact w3
  · rw [tx_off (by omega)]; exact w4
  · rw [tx_off (by omega)]; exact w5
  · rw [tx_i (by decide)]; exact w6
  · rw [tx_off (by omega)]; exact w7
theorem pnF_tx {mu : Mem} {t c9 : Nat} {c f k : Int} {N : Int → Int} (h : c9 < t ∨ t + 2 < c9) (x : Int) : pnF (txM mu t c f k N) c9 x = pnF mu c9 x := by
  unfold pnF; rw [tx_off h]
def fcF (mu : Mem) (c t : Nat) : Int :=
  if mu t 5 = 1 then fnF mu c (mu (t + 2) 0) (mu (t + 2) 1) else if mu t 5 = 2 then fgF mu c (mu (t + 2) 0) (mu (t + 2) 1) else if mu t 5 = 3 then fdF mu c (mu (t + 2) 0) (mu (t + 2) 1) (mu (t + 2) 2) else
    if mu t 5 = 4 then fflF mu c (mu (t + 2) 0) (mu (t + 2) 1) (mu (t + 2) 2) (mu (t + 2) 3) (mu (t + 2) 4) else if mu t 5 = 5 then fpF mu c (mu (t + 2) 0) else if mu t 5 = 6 then fshF mu c (mu (t + 2) 0) (mu (t + 2) 1) else
      if mu t 5 = 7 then frF (mu (t + 2) 0) 0 3 else if mu t 5 = 8 then flF8 mu c (mu (t + 2) 0) else 2
def coM (mu : Mem) (c t : Nat) : Mem :=
  if mu t 5 = 1 then apM mu c (mu (t + 2) 0) (mu (t + 2) 1) else if mu t 5 = 2 then putL mu (c + 2) (dwF (lay mu (c + 2)) (mu (t + 2) 0) (mu (t + 2) 1)) else if mu t 5 = 3 then putL mu (c + 2) (dkF (lay mu (c + 2)) (mu (t + 2) 0) (mu (t + 2) 1) (mu (t + 2) 2)) else
    if mu t 5 = 4 then putL mu (c + 2) (flF (lay mu (c + 2)) (mu (t + 2) 0) (mu (t + 2) 1) (mu (t + 2) 2) (mu (t + 2) 3) (mu (t + 2) 4)) else if mu t 5 = 5 then putL mu (c + 2) (tkF (lay mu (c + 2)) (mu (t + 2) 0)) else
      if mu t 5 = 6 then putL mu (c + 2) (sL (lay mu (c + 2)) 3 (gL (lay mu (c + 2)) 0 (mu (t + 2) 0)) (mu (t + 2) 1)) else if mu t 5 = 7 then kpM mu c (mu (t + 2) 0).toNat else if mu t 5 = 8 then tpM mu c (mu (t + 2) 0).toNat else mu
theorem fcF_b (mu : Mem) (c t : Nat) : 0 ≤ fcF mu c t ∧ fcF mu c t ≤ 3 := by
  unfold fcF fnF fgF fdF fflF fpF fshF flF8 frF
  (repeat' split) <;> omega
section VU
variable {X : Cx} {cc : ByteArray} {Ts : List Cond} {own : String} {ret : Option FieldType} {fr nL : Nat} {pc : Nat} {r : Rg} {st : List Value} {S : Sh} {n : Nat} {mu : Mem} {la : Lam} {k sl : Nat}
/-- a call of an inherited method on an object that was there before all -/
theorem V_callU (C : Ok X cc Ts own ret fr nL) {index nA maxL fc b : Nat} {Cn owner : String} {x y : MethodName} {ws ws' : List Cond} {bytes : ByteArray} {rt : Option FieldType} {As rest : List Value} {o : Option Value} {S' : Sh} {n' : Nat} {mu' : Mem} {la' : Lam}
    (hd : decode cc pc = .ok (.invokevirtual index, 3)) (hM : Ct (xG X) (xL X) y ws fc 0 0 (.ref b :: As) S n mu la (Dt o S' n' mu' la')) (hG : GoodIn Ts (va_wsU own index Cn owner x y ws)) (hw : ws = Cond.code y bytes maxL rt :: ws')
    (hyx : y = ⟨owner, x.name, x.desc⟩) (hy : owner ≠ "java/lang/invoke/MethodHandle" ∧ owner ≠ "java/lang/invoke/VarHandle" ∧ (parseMethodDescriptor x.desc).map (fun d => d.parameters.length) = some nA) (hfr : fc + 1 ≤ fr) (hml : maxL ≤ 11)
    (hO : va_O Cn b (gA (xG X)) (xS X) (xS X).heap)
    (hn : As.length = nA) (hcat : (rest.map fun v => v.category).sum ≤ 8) (hf : k ≤ (xR X).cells ∧ sl ≤ (xR X).slots) {st0 : List Value} (hst : st0 = psh (.ref b :: As) rest)
    (kk : V X (pc + 3) r (oc o rest) S' n' mu' la' k sl) : V X pc r st0 S n mu la k sl := by
  intro H locs ls hH hS hl
  obtain ⟨cell, h1, h2, h3, -⟩ := hO.kept hS.2.1
  exact V_ran C (va_runU ⟨C.1, C.2.1, C.2.2.1, C.own, C.ts⟩ hM (va_cwU nA C.ts hG hw rfl rfl hyx hy ⟨by rw [C.frames]; exact hfr, by rw [C.regs]; show 8 + (maxL + 11) + 30 * fc ≤ _; omega⟩)
    ⟨Pm_blind C.gp, ⟨cell, h1, h2, h3⟩, V_pre C hH hS (.ref b :: As)⟩ rfl hn hl.1 (by rw [hst, psh_eq]; simp) (cat_le hcat) hd hf) hS hl (V_toD kk)
end VU
section D6
variable {G : Gx} {l : Launch} {S : Sh} {n : Nat} {mu : Mem} {la : Lam} {a c h t p b q : Nat}
theorem z_number (hG : GP G) (hT : TxS S t) {i : Int} (hi : 0 ≤ i ∧ i < 5) : Ct G l yX2_number wsX2_number 1 0 0 [.ref t, .int (I32 i)] S n mu la (Dt (some (.int (I32 (mu (t + 2) i)))) S n mu la) := by
  have z := t_number (l := l) (n := n) (mu := mu) (la := la) (c := mu t 3) (f := mu t 4) (k := mu t 5) (N := mu (t + 2)) hG hT hi
  rw [tx_self] at z
  exact z
theorem z_command (hG : GP G) (hT : TxS S t) : Ct G l yX2_command wsX2_command 0 0 0 [.ref t] S n mu la (Dt (some (eRef G (mu t 5))) S n mu la) := by
  have z := t_command (l := l) (n := n) (mu := mu) (la := la) (c := mu t 3) (f := mu t 4) (k := mu t 5) (N := mu (t + 2)) hG hT
  rw [tx_self] at z
  exact z
theorem z_readNext (hG : GP G) (hE : GE G) (hT : TxS S t) (hR : R32 mu) (hn : 0 ≤ mu t 2 ∧ mu t 2 ≤ 150) (hc : 0 ≤ mu t 3 ∧ mu t 3 ≤ mu t 2) (hf : mu t 4 = -1) (hk : 0 ≤ mu t 5 ∧ mu t 5 ≤ 8) : Ct G l yX2_readNext wsX2_readNext 6 0 0 [.ref t] S n mu la (Dt (some (.int (I32 (rnF mu t (mu t 3) (mu t 5) (mu (t + 2))).1))) S n (txT mu t (rnF mu t (mu t 3) (mu t 5) (mu (t + 2))).2) la) := by
  have z := t_readNext (l := l) (n := n) (mu := mu) (la := la) (N := mu (t + 2)) hG hE hT hR hn hc hk
  rw [← hf, tx_self] at z
  exact z
theorem z_faultOfAll (hG : GP G) (hE : GE G) (hT : TxS S t) (hR : R32 mu) (hn : 0 ≤ mu t 2 ∧ mu t 2 ≤ 150) (hk : 0 ≤ mu t 5 ∧ mu t 5 ≤ 8) : Ct G l yX2_faultOfAll wsX2_faultOfAll 7 0 0 [.ref t] S n mu la (Dt (some (.int (I32 (ftaF mu t (mu t 5) (mu (t + 2))).2.1))) S n (txT mu t (ftaF mu t (mu t 5) (mu (t + 2)))) la) := by
  have z := t_faultOfAll (l := l) (n := n) (mu := mu) (la := la) (c := mu t 3) (f := mu t 4) (N := mu (t + 2)) hG hE hT hR hn hk
  rw [tx_self] at z
  exact z
theorem z_startReading (hG : GP G) (hT : TxS S t) : Ct G l yX2_startReading wsX2_startReading 0 0 0 [.ref t] S n mu la (Dt none S n (txM mu t 0 (-1) (mu t 5) (mu (t + 2))) la) := by
  have z := t_startReading (l := l) (n := n) (mu := mu) (la := la) (c := mu t 3) (f := mu t 4) (k := mu t 5) (N := mu (t + 2)) hG hT
  rw [tx_self] at z
  exact z
set_option maxRecDepth 20000 in
theorem ggX8_faultOfCommand_X2_number : GoodIn wsX8_faultOfCommand wsX2_number := goodIn_r _ [7, 8, 9, 10, 11, 87, 88, 89, 90, 91, 92] (by decide +kernel) (by decide +kernel)
set_option maxRecDepth 20000 in
theorem gX8_faultOfCommand_X2_number : GoodIn wsX8_faultOfCommand (wsV RX8 343 RX2 yX2_number wsX2_number) := goodIn_app (goodIn_of _ (by decide +kernel)) ggX8_faultOfCommand_X2_number
set_option maxRecDepth 20000 in
theorem ggX8_faultOfCommand_Jx29ce0_ordinal_8abf5 : GoodIn wsX8_faultOfCommand wsJx29ce0_ordinal_8abf5 := goodIn_r _ [17, 18] (by decide +kernel) (by decide +kernel)
set_option maxRecDepth 20000 in
theorem gX8_faultOfCommand_Jx29ce0_ordinal_8abf5_u351X1 : GoodIn wsX8_faultOfCommand (va_wsU RX8 351 RX1 "java/lang/Enum" ⟨"DockTree$Command", "ordinal", "()I"⟩ yJx29ce0_ordinal_8abf5 wsJx29ce0_ordinal_8abf5) := goodIn_app (goodIn_of _ (by decide +kernel)) ggX8_faultOfCommand_Jx29ce0_ordinal_8abf5
set_option maxRecDepth 20000 in
theorem ggX8_faultOfCommand_X8_faultOfNewPane : GoodIn wsX8_faultOfCommand wsX8_faultOfNewPane := goodIn_r _ [22, 23, 24, 25, 10, 26, 27, 28, 29, 81, 82, 83, 84, 85, 86, 93, 94, 95, 96, 97, 98, 99] (by decide +kernel) (by decide +kernel)
set_option maxRecDepth 20000 in
theorem gX8_faultOfCommand_X8_faultOfNewPane : GoodIn wsX8_faultOfCommand (wsV RX8 69 RX8 yX8_faultOfNewPane wsX8_faultOfNewPane) := goodIn_app (goodIn_of _ (by decide +kernel)) ggX8_faultOfCommand_X8_faultOfNewPane
set_option maxRecDepth 20000 in
theorem ggX8_faultOfCommand_X8_faultOfEdge : GoodIn wsX8_faultOfCommand wsX8_faultOfEdge := goodIn_r _ [33, 34, 35, 36, 10, 37, 23, 27, 28, 29, 81, 82, 83, 84, 85, 86, 93, 94, 95, 96, 97, 98, 99] (by decide +kernel) (by decide +kernel)
set_option maxRecDepth 20000 in
theorem gX8_faultOfCommand_X8_faultOfEdge : GoodIn wsX8_faultOfCommand (wsV RX8 110 RX8 yX8_faultOfEdge wsX8_faultOfEdge) := goodIn_app (goodIn_of _ (by decide +kernel)) ggX8_faultOfCommand_X8_faultOfEdge
set_option maxRecDepth 20000 in
theorem ggX8_faultOfCommand_X8_faultOfDocking : GoodIn wsX8_faultOfCommand wsX8_faultOfDocking := goodIn_r _ [41, 23, 34, 35, 36, 10, 37, 42, 43, 44, 45, 46, 47, 9, 11, 81, 82, 83, 84, 85, 86, 93, 94, 95, 96, 97, 98, 99, 100, 101, 102, 103, 104, 105, 106, 107] (by decide +kernel) (by decide +kernel)
set_option maxRecDepth 20000 in
theorem gX8_faultOfCommand_X8_faultOfDocking : GoodIn wsX8_faultOfCommand (wsV RX8 93 RX8 yX8_faultOfDocking wsX8_faultOfDocking) := goodIn_app (goodIn_of _ (by decide +kernel)) ggX8_faultOfCommand_X8_faultOfDocking
set_option maxRecDepth 20000 in
theorem ggX8_faultOfCommand_X8_faultOfFloating : GoodIn wsX8_faultOfCommand wsX8_faultOfFloating := goodIn_r _ [51, 34, 35, 36, 10, 37, 23, 81, 82, 83, 84, 85, 86, 93, 94, 95, 96, 97, 98, 99] (by decide +kernel) (by decide +kernel)
set_option maxRecDepth 20000 in
theorem gX8_faultOfCommand_X8_faultOfFloating : GoodIn wsX8_faultOfCommand (wsV RX8 120 RX8 yX8_faultOfFloating wsX8_faultOfFloating) := goodIn_app (goodIn_of _ (by decide +kernel)) ggX8_faultOfCommand_X8_faultOfFloating
set_option maxRecDepth 20000 in
theorem ggX8_faultOfCommand_X8_faultOfPane : GoodIn wsX8_faultOfCommand wsX8_faultOfPane := goodIn_r _ [55, 34, 35, 36, 10, 37, 23, 81, 82, 83, 84, 85, 86, 93, 94, 95, 96, 97, 98, 99] (by decide +kernel) (by decide +kernel)
set_option maxRecDepth 20000 in
theorem gX8_faultOfCommand_X8_faultOfPane : GoodIn wsX8_faultOfCommand (wsV RX8 134 RX8 yX8_faultOfPane wsX8_faultOfPane) := goodIn_app (goodIn_of _ (by decide +kernel)) ggX8_faultOfCommand_X8_faultOfPane
set_option maxRecDepth 20000 in
theorem ggX8_faultOfCommand_X8_faultOfShare : GoodIn wsX8_faultOfCommand wsX8_faultOfShare := goodIn_r _ [59, 60, 23, 34, 35, 36, 10, 37, 61, 62, 63, 45, 64, 47, 9, 11, 65, 66, 67, 81, 82, 83, 84, 85, 86, 93, 94, 95, 96, 97, 98, 99, 100, 101, 102, 103, 104, 105, 106, 107] (by decide +kernel) (by decide +kernel)
set_option maxRecDepth 20000 in
theorem gX8_faultOfCommand_X8_faultOfShare : GoodIn wsX8_faultOfCommand (wsV RX8 161 RX8 yX8_faultOfShare wsX8_faultOfShare) := goodIn_app (goodIn_of _ (by decide +kernel)) ggX8_faultOfCommand_X8_faultOfShare
set_option maxRecDepth 20000 in
theorem ggX8_faultOfCommand_X8_faultOfSaving : GoodIn wsX8_faultOfCommand wsX8_faultOfSaving := goodIn_r _ [70, 27, 28, 10, 29] (by decide +kernel) (by decide +kernel)
set_option maxRecDepth 20000 in
theorem gX8_faultOfCommand_X8_faultOfSaving : GoodIn wsX8_faultOfCommand (va_wsS RX8 182 yX8_faultOfSaving wsX8_faultOfSaving) := goodIn_app (goodIn_of _ (by decide +kernel)) ggX8_faultOfCommand_X8_faultOfSaving
set_option maxRecDepth 20000 in
theorem ggX8_faultOfCommand_X8_faultOfLoading : GoodIn wsX8_faultOfCommand wsX8_faultOfLoading := goodIn_r _ [74, 23, 27, 28, 10, 29, 75, 76, 77, 78, 79, 80, 9, 11, 81, 82, 83, 84, 85, 86, 93, 94, 95, 96, 97, 98, 99] (by decide +kernel) (by decide +kernel)
set_option maxRecDepth 20000 in
theorem gX8_faultOfCommand_X8_faultOfLoading : GoodIn wsX8_faultOfCommand (wsV RX8 191 RX8 yX8_faultOfLoading wsX8_faultOfLoading) := goodIn_app (goodIn_of _ (by decide +kernel)) ggX8_faultOfCommand_X8_faultOfLoading
theorem dX8_faultOfCommand_0 : decode cX8_faultOfCommand 0 = .ok (.aload_n 1, 1) := by decide +kernel
theorem dX8_faultOfCommand_1 : decode cX8_faultOfCommand 1 = .ok (.ifnonnull 5, 3) := by decide +kernel
theorem dX8_faultOfCommand_4 : decode cX8_faultOfCommand 4 = .ok (.iconst 2, 1) := by decide +kernel
theorem dX8_faultOfCommand_5 : decode cX8_faultOfCommand 5 = .ok (.ireturn, 1) := by decide +kernel
theorem dX8_faultOfCommand_6 : decode cX8_faultOfCommand 6 = .ok (.aload_n 0, 1) := by decide +kernel
theorem dX8_faultOfCommand_7 : decode cX8_faultOfCommand 7 = .ok (.getfield 26, 3) := by decide +kernel
theorem dX8_faultOfCommand_10 : decode cX8_faultOfCommand 10 = .ok (.iconst 0, 1) := by decide +kernel
theorem dX8_faultOfCommand_11 : decode cX8_faultOfCommand 11 = .ok (.invokevirtual 343, 3) := by decide +kernel
theorem dX8_faultOfCommand_14 : decode cX8_faultOfCommand 14 = .ok (.istore_n 2, 1) := by decide +kernel
theorem dX8_faultOfCommand_15 : decode cX8_faultOfCommand 15 = .ok (.aload_n 0, 1) := by decide +kernel
theorem dX8_faultOfCommand_16 : decode cX8_faultOfCommand 16 = .ok (.getfield 26, 3) := by decide +kernel
theorem dX8_faultOfCommand_19 : decode cX8_faultOfCommand 19 = .ok (.iconst 1, 1) := by decide +kernel
theorem dX8_faultOfCommand_20 : decode cX8_faultOfCommand 20 = .ok (.invokevirtual 343, 3) := by decide +kernel
theorem dX8_faultOfCommand_23 : decode cX8_faultOfCommand 23 = .ok (.istore_n 3, 1) := by decide +kernel
theorem dX8_faultOfCommand_24 : decode cX8_faultOfCommand 24 = .ok (.getstatic 346, 3) := by decide +kernel
theorem dX8_faultOfCommand_27 : decode cX8_faultOfCommand 27 = .ok (.aload_n 1, 1) := by decide +kernel
theorem dX8_faultOfCommand_28 : decode cX8_faultOfCommand 28 = .ok (.invokevirtual 351, 3) := by decide +kernel
theorem dX8_faultOfCommand_31 : decode cX8_faultOfCommand 31 = .ok (.iaload, 1) := by decide +kernel
theorem dX8_faultOfCommand_32 : decode cX8_faultOfCommand 32 = .ok (.tableswitch 122 1 7 #[44, 51, 58, 73, 104, 110, 117], 44) := by decide +kernel
theorem dX8_faultOfCommand_76 : decode cX8_faultOfCommand 76 = .ok (.aload_n 0, 1) := by decide +kernel
theorem dX8_faultOfCommand_77 : decode cX8_faultOfCommand 77 = .ok (.iload_n 2, 1) := by decide +kernel
theorem dX8_faultOfCommand_78 : decode cX8_faultOfCommand 78 = .ok (.iload_n 3, 1) := by decide +kernel
theorem dX8_faultOfCommand_79 : decode cX8_faultOfCommand 79 = .ok (.invokevirtual 69, 3) := by decide +kernel
theorem dX8_faultOfCommand_82 : decode cX8_faultOfCommand 82 = .ok (.ireturn, 1) := by decide +kernel
theorem dX8_faultOfCommand_83 : decode cX8_faultOfCommand 83 = .ok (.aload_n 0, 1) := by decide +kernel
theorem dX8_faultOfCommand_84 : decode cX8_faultOfCommand 84 = .ok (.iload_n 2, 1) := by decide +kernel
theorem dX8_faultOfCommand_85 : decode cX8_faultOfCommand 85 = .ok (.iload_n 3, 1) := by decide +kernel
theorem dX8_faultOfCommand_86 : decode cX8_faultOfCommand 86 = .ok (.invokevirtual 110, 3) := by decide +kernel
theorem dX8_faultOfCommand_89 : decode cX8_faultOfCommand 89 = .ok (.ireturn, 1) := by decide +kernel
theorem dX8_faultOfCommand_90 : decode cX8_faultOfCommand 90 = .ok (.aload_n 0, 1) := by decide +kernel
theorem dX8_faultOfCommand_91 : decode cX8_faultOfCommand 91 = .ok (.iload_n 2, 1) := by decide +kernel
theorem dX8_faultOfCommand_92 : decode cX8_faultOfCommand 92 = .ok (.iload_n 3, 1) := by decide +kernel
theorem dX8_faultOfCommand_93 : decode cX8_faultOfCommand 93 = .ok (.aload_n 0, 1) := by decide +kernel
theorem dX8_faultOfCommand_94 : decode cX8_faultOfCommand 94 = .ok (.getfield 26, 3) := by decide +kernel
theorem dX8_faultOfCommand_97 : decode cX8_faultOfCommand 97 = .ok (.iconst 2, 1) := by decide +kernel
theorem dX8_faultOfCommand_98 : decode cX8_faultOfCommand 98 = .ok (.invokevirtual 343, 3) := by decide +kernel
theorem dX8_faultOfCommand_101 : decode cX8_faultOfCommand 101 = .ok (.invokevirtual 93, 3) := by decide +kernel
theorem dX8_faultOfCommand_104 : decode cX8_faultOfCommand 104 = .ok (.ireturn, 1) := by decide +kernel
theorem dX8_faultOfCommand_105 : decode cX8_faultOfCommand 105 = .ok (.aload_n 0, 1) := by decide +kernel
theorem dX8_faultOfCommand_106 : decode cX8_faultOfCommand 106 = .ok (.iload_n 2, 1) := by decide +kernel
theorem dX8_faultOfCommand_107 : decode cX8_faultOfCommand 107 = .ok (.iload_n 3, 1) := by decide +kernel
theorem dX8_faultOfCommand_108 : decode cX8_faultOfCommand 108 = .ok (.aload_n 0, 1) := by decide +kernel
theorem dX8_faultOfCommand_109 : decode cX8_faultOfCommand 109 = .ok (.getfield 26, 3) := by decide +kernel
theorem dX8_faultOfCommand_112 : decode cX8_faultOfCommand 112 = .ok (.iconst 2, 1) := by decide +kernel
theorem dX8_faultOfCommand_113 : decode cX8_faultOfCommand 113 = .ok (.invokevirtual 343, 3) := by decide +kernel
theorem dX8_faultOfCommand_116 : decode cX8_faultOfCommand 116 = .ok (.aload_n 0, 1) := by decide +kernel
theorem dX8_faultOfCommand_117 : decode cX8_faultOfCommand 117 = .ok (.getfield 26, 3) := by decide +kernel
theorem dX8_faultOfCommand_120 : decode cX8_faultOfCommand 120 = .ok (.iconst 3, 1) := by decide +kernel
theorem dX8_faultOfCommand_121 : decode cX8_faultOfCommand 121 = .ok (.invokevirtual 343, 3) := by decide +kernel
theorem dX8_faultOfCommand_124 : decode cX8_faultOfCommand 124 = .ok (.aload_n 0, 1) := by decide +kernel
theorem dX8_faultOfCommand_125 : decode cX8_faultOfCommand 125 = .ok (.getfield 26, 3) := by decide +kernel
theorem dX8_faultOfCommand_128 : decode cX8_faultOfCommand 128 = .ok (.iconst 4, 1) := by decide +kernel
theorem dX8_faultOfCommand_129 : decode cX8_faultOfCommand 129 = .ok (.invokevirtual 343, 3) := by decide +kernel
theorem dX8_faultOfCommand_132 : decode cX8_faultOfCommand 132 = .ok (.invokevirtual 120, 3) := by decide +kernel
theorem dX8_faultOfCommand_135 : decode cX8_faultOfCommand 135 = .ok (.ireturn, 1) := by decide +kernel
theorem dX8_faultOfCommand_136 : decode cX8_faultOfCommand 136 = .ok (.aload_n 0, 1) := by decide +kernel
theorem dX8_faultOfCommand_137 : decode cX8_faultOfCommand 137 = .ok (.iload_n 2, 1) := by decide +kernel
theorem dX8_faultOfCommand_138 : decode cX8_faultOfCommand 138 = .ok (.invokevirtual 134, 3) := by decide +kernel
theorem dX8_faultOfCommand_141 : decode cX8_faultOfCommand 141 = .ok (.ireturn, 1) := by decide +kernel
theorem dX8_faultOfCommand_142 : decode cX8_faultOfCommand 142 = .ok (.aload_n 0, 1) := by decide +kernel
theorem dX8_faultOfCommand_143 : decode cX8_faultOfCommand 143 = .ok (.iload_n 2, 1) := by decide +kernel
theorem dX8_faultOfCommand_144 : decode cX8_faultOfCommand 144 = .ok (.iload_n 3, 1) := by decide +kernel
theorem dX8_faultOfCommand_145 : decode cX8_faultOfCommand 145 = .ok (.invokevirtual 161, 3) := by decide +kernel
theorem dX8_faultOfCommand_148 : decode cX8_faultOfCommand 148 = .ok (.ireturn, 1) := by decide +kernel
theorem dX8_faultOfCommand_149 : decode cX8_faultOfCommand 149 = .ok (.iload_n 2, 1) := by decide +kernel
theorem dX8_faultOfCommand_150 : decode cX8_faultOfCommand 150 = .ok (.invokestatic 182, 3) := by decide +kernel
theorem dX8_faultOfCommand_153 : decode cX8_faultOfCommand 153 = .ok (.ireturn, 1) := by decide +kernel
theorem dX8_faultOfCommand_154 : decode cX8_faultOfCommand 154 = .ok (.aload_n 0, 1) := by decide +kernel
theorem dX8_faultOfCommand_155 : decode cX8_faultOfCommand 155 = .ok (.iload_n 2, 1) := by decide +kernel
theorem dX8_faultOfCommand_156 : decode cX8_faultOfCommand 156 = .ok (.invokevirtual 191, 3) := by decide +kernel
theorem dX8_faultOfCommand_159 : decode cX8_faultOfCommand 159 = .ok (.ireturn, 1) := by decide +kernel
theorem hin_X8_faultOfCommand_X8 : ∀ w ∈ wsX80, w ∈ wsX8_faultOfCommand := by decide +kernel
theorem lk_X8_faultOfCommand_26 : Cond.fieldLink RX8 26 RX8 "text" "LDockTree$CommandText;" ∈ wsX8_faultOfCommand := by decide +kernel
theorem k_faultOfCommand (hG : GP G) (hE : GE G) (hD : DoS S a c h t p b q) (hW : Wo mu c h t p) (hk : 0 ≤ mu t 5 ∧ mu t 5 ≤ 8) : Ct G l yX8_faultOfCommand wsX8_faultOfCommand 3 0 0 [.ref a, eRef G (mu t 5)] S n mu la (Dt (some (.int (I32 (fcF mu c t)))) S n mu la) := by
  have o8 := hD.1
  have hT := hD.2.2.2.1
  have o2 := hT.1
  have r := hW.1
  unfold fcF
  have hk9 : mu t 5 = 0 ∨ ∃ j : Nat, j < 8 ∧ mu t 5 = (j : Int) + 1 := by
    by_cases h0 : mu t 5 = 0
    · exact Or.inl h0
    · exact Or.inr ⟨(mu t 5 - 1).toNat, by omega, by omega⟩
  rcases hk9 with h0 | ⟨j, hj, h0⟩
  · rw [eRef_0 G (by omega)]
    refine Ct.ofV (cc := cX8_faultOfCommand) (nL := 4) (ret := (some .int)) [some (.ref a), some .null, none, none] hG (by decide) rfl (Nat.le_of_ble_eq_true rfl) rfl ?_
    rintro X rfl rfl C hcl hsl E
    refine V_aload_nN C dX8_faultOfCommand_0 rfl ?_
    refine V_ifnonnullN C dX8_faultOfCommand_1 ?_
    refine V_iconst C dX8_faultOfCommand_4 ?_
    refine V_ireturn C E dX8_faultOfCommand_5 (by omega) (by omega) ?_
    simp only [h0]
    exact Dt_rfl
  · rw [h0, eRef_1]
    refine Ct.ofV (cc := cX8_faultOfCommand) (nL := 4) (ret := (some .int)) [some (.ref a), some (.ref (G.2.2.1 j)), none, none] hG (by decide) rfl (Nat.le_of_ble_eq_true rfl) rfl ?_
    rintro X rfl rfl C hcl hsl E
    refine V_aload_n C dX8_faultOfCommand_0 rfl ?_
    refine V_ifnonnull C 6 dX8_faultOfCommand_1 (by decide) ?_
    refine V_aload_n C dX8_faultOfCommand_6 rfl ?_
    refine V_getR C 2 dX8_faultOfCommand_7 o8 rfl hin_X8_faultOfCommand_X8 (by decide) lk_X8_faultOfCommand_26 rfl rfl ?_
    refine V_iconst C dX8_faultOfCommand_10 ?_
    refine V_callVD (nA := 1) C dX8_faultOfCommand_11 (z_number C.gp hT (by decide)) gX8_faultOfCommand_X2_number rfl o2 rfl (by decide +kernel) rfl (by decide) (by decide) (Nat.le_of_ble_eq_true rfl) ⟨by omega, by omega⟩ rfl ?_
    refine V_istore_n C dX8_faultOfCommand_14 rfl (by decide) ?_
    refine V_aload_n C dX8_faultOfCommand_15 rfl ?_
    refine V_getR C 2 dX8_faultOfCommand_16 o8 rfl hin_X8_faultOfCommand_X8 (by decide) lk_X8_faultOfCommand_26 rfl rfl ?_
    refine V_iconst C dX8_faultOfCommand_19 ?_
    refine V_callVD (nA := 1) C dX8_faultOfCommand_20 (z_number C.gp hT (by decide)) gX8_faultOfCommand_X2_number rfl o2 rfl (by decide +kernel) rfl (by decide) (by decide) (Nat.le_of_ble_eq_true rfl) ⟨by omega, by omega⟩ rfl ?_
    refine V_istore_n C dX8_faultOfCommand_23 rfl (by decide) ?_
    obtain ⟨-, ⟨aS, e1, e2⟩, -⟩ := hE _ C.pe.2.2
    have e := (hE _ C.pe.2.2).2.2.2.2 j hj
    refine V_gets C dX8_faultOfCommand_24 e1 (by decide +kernel) ?_
    refine V_aload_n C dX8_faultOfCommand_27 rfl ?_
    refine V_callU (nA := 0) (rest := [.ref aS]) C dX8_faultOfCommand_28 (j_ordinal C.gp hE hj) gX8_faultOfCommand_Jx29ce0_ordinal_8abf5_u351X1 rfl rfl (by decide +kernel) (by decide) (by decide) e.1 rfl (Nat.le_of_ble_eq_true rfl) ⟨by omega, by omega⟩ rfl ?_
    refine V_ti C dX8_faultOfCommand_31 e2 (by omega) (by decide) ?_
    rw [Int.toNat_natCast]
    have hj9 : j = 0 ∨ j = 1 ∨ j = 2 ∨ j = 3 ∨ j = 4 ∨ j = 5 ∨ j = 6 ∨ j = 7 := by omega
    rcases hj9 with rfl | rfl | rfl | rfl | rfl | rfl | rfl | rfl
    · refine V_tableIn C 76 dX8_faultOfCommand_32 (by omega) (by omega) (by omega) rfl (by decide) ?_
      refine V_aload_n C dX8_faultOfCommand_76 rfl ?_
      refine V_iload_n C dX8_faultOfCommand_77 rfl ?_
      refine V_iload_n C dX8_faultOfCommand_78 rfl ?_
      refine V_callVD (nA := 2) C dX8_faultOfCommand_79 (k_faultOfNewPane C.gp hD hW (r _ _) (r _ _)) gX8_faultOfCommand_X8_faultOfNewPane rfl o8 rfl (by decide +kernel) rfl (by decide) (by decide) (Nat.le_of_ble_eq_true rfl) ⟨by omega, by omega⟩ rfl ?_
      refine V_ireturn C E dX8_faultOfCommand_82 (by omega) (by omega) ?_
      exact Dt_rfl
    · refine V_tableIn C 83 dX8_faultOfCommand_32 (by omega) (by omega) (by omega) rfl (by decide) ?_
      refine V_aload_n C dX8_faultOfCommand_83 rfl ?_
      refine V_iload_n C dX8_faultOfCommand_84 rfl ?_
      refine V_iload_n C dX8_faultOfCommand_85 rfl ?_
      refine V_callVD (nA := 2) C dX8_faultOfCommand_86 (k_faultOfEdge C.gp hD hW (r _ _) (r _ _)) gX8_faultOfCommand_X8_faultOfEdge rfl o8 rfl (by decide +kernel) rfl (by decide) (by decide) (Nat.le_of_ble_eq_true rfl) ⟨by omega, by omega⟩ rfl ?_
      refine V_ireturn C E dX8_faultOfCommand_89 (by omega) (by omega) ?_
      exact Dt_rfl
    · refine V_tableIn C 90 dX8_faultOfCommand_32 (by omega) (by omega) (by omega) rfl (by decide) ?_
      refine V_aload_n C dX8_faultOfCommand_90 rfl ?_
      refine V_iload_n C dX8_faultOfCommand_91 rfl ?_
      refine V_iload_n C dX8_faultOfCommand_92 rfl ?_
      refine V_aload_n C dX8_faultOfCommand_93 rfl ?_
      refine V_getR C 2 dX8_faultOfCommand_94 o8 rfl hin_X8_faultOfCommand_X8 (by decide) lk_X8_faultOfCommand_26 rfl rfl ?_
      refine V_iconst C dX8_faultOfCommand_97 ?_
      refine V_callVD (nA := 1) C dX8_faultOfCommand_98 (z_number C.gp hT (by decide)) gX8_faultOfCommand_X2_number rfl o2 rfl (by decide +kernel) rfl (by decide) (by decide) (Nat.le_of_ble_eq_true rfl) ⟨by omega, by omega⟩ rfl ?_
      refine V_callVD (nA := 3) C dX8_faultOfCommand_101 (k_faultOfDocking C.gp hD hW (r _ _) (r _ _) (r _ _)) gX8_faultOfCommand_X8_faultOfDocking rfl o8 rfl (by decide +kernel) rfl (by decide) (by decide) (Nat.le_of_ble_eq_true rfl) ⟨by omega, by omega⟩ rfl ?_
      refine V_ireturn C E dX8_faultOfCommand_104 (by omega) (by omega) ?_
      exact Dt_rfl
    · refine V_tableIn C 105 dX8_faultOfCommand_32 (by omega) (by omega) (by omega) rfl (by decide) ?_
      refine V_aload_n C dX8_faultOfCommand_105 rfl ?_
      refine V_iload_n C dX8_faultOfCommand_106 rfl ?_
      refine V_iload_n C dX8_faultOfCommand_107 rfl ?_
      refine V_aload_n C dX8_faultOfCommand_108 rfl ?_
      refine V_getR C 2 dX8_faultOfCommand_109 o8 rfl hin_X8_faultOfCommand_X8 (by decide) lk_X8_faultOfCommand_26 rfl rfl ?_
      refine V_iconst C dX8_faultOfCommand_112 ?_
      refine V_callVD (nA := 1) C dX8_faultOfCommand_113 (z_number C.gp hT (by decide)) gX8_faultOfCommand_X2_number rfl o2 rfl (by decide +kernel) rfl (by decide) (by decide) (Nat.le_of_ble_eq_true rfl) ⟨by omega, by omega⟩ rfl ?_
      refine V_aload_n C dX8_faultOfCommand_116 rfl ?_
      refine V_getR C 2 dX8_faultOfCommand_117 o8 rfl hin_X8_faultOfCommand_X8 (by decide) lk_X8_faultOfCommand_26 rfl rfl ?_
      refine V_iconst C dX8_faultOfCommand_120 ?_
      refine V_callVD (nA := 1) C dX8_faultOfCommand_121 (z_number C.gp hT (by decide)) gX8_faultOfCommand_X2_number rfl o2 rfl (by decide +kernel) rfl (by decide) (by decide) (Nat.le_of_ble_eq_true rfl) ⟨by omega, by omega⟩ rfl ?_
      refine V_aload_n C dX8_faultOfCommand_124 rfl ?_
      refine V_getR C 2 dX8_faultOfCommand_125 o8 rfl hin_X8_faultOfCommand_X8 (by decide) lk_X8_faultOfCommand_26 rfl rfl ?_
      refine V_iconst C dX8_faultOfCommand_128 ?_
      refine V_callVD (nA := 1) C dX8_faultOfCommand_129 (z_number C.gp hT (by decide)) gX8_faultOfCommand_X2_number rfl o2 rfl (by decide +kernel) rfl (by decide) (by decide) (Nat.le_of_ble_eq_true rfl) ⟨by omega, by omega⟩ rfl ?_
      refine V_callVD (nA := 5) C dX8_faultOfCommand_132 (k_faultOfFloating C.gp hD hW (r _ _) (r _ _) (r _ _) (r _ _) (r _ _)) gX8_faultOfCommand_X8_faultOfFloating rfl o8 rfl (by decide +kernel) rfl (by decide) (by decide) (Nat.le_of_ble_eq_true rfl) ⟨by omega, by omega⟩ rfl ?_
      refine V_ireturn C E dX8_faultOfCommand_135 (by omega) (by omega) ?_
      exact Dt_rfl
    · refine V_tableIn C 136 dX8_faultOfCommand_32 (by omega) (by omega) (by omega) rfl (by decide) ?_
      refine V_aload_n C dX8_faultOfCommand_136 rfl ?_
      refine V_iload_n C dX8_faultOfCommand_137 rfl ?_
      refine V_callVD (nA := 1) C dX8_faultOfCommand_138 (k_faultOfPane C.gp hD hW (r _ _)) gX8_faultOfCommand_X8_faultOfPane rfl o8 rfl (by decide +kernel) rfl (by decide) (by decide) (Nat.le_of_ble_eq_true rfl) ⟨by omega, by omega⟩ rfl ?_
      refine V_ireturn C E dX8_faultOfCommand_141 (by omega) (by omega) ?_
      exact Dt_rfl
    · refine V_tableIn C 142 dX8_faultOfCommand_32 (by omega) (by omega) (by omega) rfl (by decide) ?_
      refine V_aload_n C dX8_faultOfCommand_142 rfl ?_
      refine V_iload_n C dX8_faultOfCommand_143 rfl ?_
      refine V_iload_n C dX8_faultOfCommand_144 rfl ?_
      refine V_callVD (nA := 2) C dX8_faultOfCommand_145 (k_faultOfShare C.gp hD hW (r _ _) (r _ _)) gX8_faultOfCommand_X8_faultOfShare rfl o8 rfl (by decide +kernel) rfl (by decide) (by decide) (Nat.le_of_ble_eq_true rfl) ⟨by omega, by omega⟩ rfl ?_
      refine V_ireturn C E dX8_faultOfCommand_148 (by omega) (by omega) ?_
      exact Dt_rfl
    · refine V_tableIn C 149 dX8_faultOfCommand_32 (by omega) (by omega) (by omega) rfl (by decide) ?_
      refine V_iload_n C dX8_faultOfCommand_149 rfl ?_
      refine V_callSD (nA := 1) C dX8_faultOfCommand_150 (k_faultOfSaving C.gp (r _ _)) gX8_faultOfCommand_X8_faultOfSaving rfl (by decide +kernel) rfl (by decide) (by decide) (Nat.le_of_ble_eq_true rfl) ⟨by omega, by omega⟩ rfl ?_
      refine V_ireturn C E dX8_faultOfCommand_153 (by omega) (by omega) ?_
      exact Dt_rfl
    · refine V_tableOut C 154 dX8_faultOfCommand_32 (by omega) (by omega) (by decide) ?_
      refine V_aload_n C dX8_faultOfCommand_154 rfl ?_
      refine V_iload_n C dX8_faultOfCommand_155 rfl ?_
      refine V_callVD (nA := 1) C dX8_faultOfCommand_156 (k_faultOfLoading C.gp hD hW (r _ _)) gX8_faultOfCommand_X8_faultOfLoading rfl o8 rfl (by decide +kernel) rfl (by decide) (by decide) (Nat.le_of_ble_eq_true rfl) ⟨by omega, by omega⟩ rfl ?_
      refine V_ireturn C E dX8_faultOfCommand_159 (by omega) (by omega) ?_
      exact Dt_rfl
set_option maxRecDepth 20000 in
theorem ggX8_carryOut_X2_number : GoodIn wsX8_carryOut wsX2_number := goodIn_r _ [8, 9, 10, 11, 12, 166, 167, 168, 169, 170, 171] (by decide +kernel) (by decide +kernel)
set_option maxRecDepth 20000 in
theorem gX8_carryOut_X2_number : GoodIn wsX8_carryOut (wsV RX8 343 RX2 yX2_number wsX2_number) := goodIn_app (goodIn_of _ (by decide +kernel)) ggX8_carryOut_X2_number
set_option maxRecDepth 20000 in
theorem ggX8_carryOut_Jx29ce0_ordinal_8abf5 : GoodIn wsX8_carryOut wsJx29ce0_ordinal_8abf5 := goodIn_r _ [18, 19] (by decide +kernel) (by decide +kernel)
set_option maxRecDepth 20000 in
theorem gX8_carryOut_Jx29ce0_ordinal_8abf5_u351X1 : GoodIn wsX8_carryOut (va_wsU RX8 351 RX1 "java/lang/Enum" ⟨"DockTree$Command", "ordinal", "()I"⟩ yJx29ce0_ordinal_8abf5 wsJx29ce0_ordinal_8abf5) := goodIn_app (goodIn_of _ (by decide +kernel)) ggX8_carryOut_Jx29ce0_ordinal_8abf5
set_option maxRecDepth 20000 in
theorem ggX8_carryOut_X7_appendPane : GoodIn wsX8_carryOut wsX7_appendPane := goodIn_r _ [24, 25, 26, 27, 28, 23, 29, 30, 31, 11, 32, 159, 160, 161, 162, 163, 164, 165] (by decide +kernel) (by decide +kernel)
set_option maxRecDepth 20000 in
theorem gX8_carryOut_X7_appendPane : GoodIn wsX8_carryOut (wsV RX8 72 RX7 yX7_appendPane wsX7_appendPane) := goodIn_app (goodIn_of _ (by decide +kernel)) ggX8_carryOut_X7_appendPane
set_option maxRecDepth 20000 in
theorem ggX8_carryOut_X4_dockAtWindow : GoodIn wsX8_carryOut wsX4_dockAtWindow := goodIn_r _ [37, 38, 39, 40, 41, 36, 42, 43, 44, 45, 46, 47, 48, 10, 11, 12, 49, 50, 51, 52, 31, 32, 53, 54, 55, 56, 57, 58, 59, 60, 61, 62, 63, 64, 65, 66, 67, 68, 69, 70, 71, 72, 73, 74, 75, 76, 77, 78, 79, 80, 81, 82, 83, 84, 85, 86, 87, 88, 89, 90, 91, 92, 93, 94, 95, 96, 97, 98, 99, 100, 101, 102, 103, 104, 105, 106, 107, 172, 173, 174, 175, 176, 177, 178, 179] (by decide +kernel) (by decide +kernel)
set_option maxRecDepth 20000 in
theorem gX8_carryOut_X4_dockAtWindow : GoodIn wsX8_carryOut (wsV RX8 113 RX4 yX4_dockAtWindow wsX4_dockAtWindow) := goodIn_app (goodIn_of _ (by decide +kernel)) ggX8_carryOut_X4_dockAtWindow
set_option maxRecDepth 20000 in
theorem ggX8_carryOut_X4_dockAt : GoodIn wsX8_carryOut wsX4_dockAt := goodIn_r _ [111, 43, 38, 39, 40, 41, 36, 42, 44, 45, 46, 47, 48, 10, 11, 12, 49, 50, 51, 52, 31, 32, 53, 54, 55, 56, 57, 58, 59, 60, 61, 62, 63, 64, 65, 66, 67, 68, 69, 70, 71, 72, 73, 74, 75, 76, 85, 86, 87, 88, 77, 78, 79, 80, 81, 82, 83, 84, 100, 101, 102, 103, 89, 90, 91, 92, 93, 94, 95, 96, 97, 98, 99, 104, 105, 106, 107, 172, 173, 174, 175, 176, 177, 178, 179] (by decide +kernel) (by decide +kernel)
set_option maxRecDepth 20000 in
theorem gX8_carryOut_X4_dockAt : GoodIn wsX8_carryOut (wsV RX8 100 RX4 yX4_dockAt wsX4_dockAt) := goodIn_app (goodIn_of _ (by decide +kernel)) ggX8_carryOut_X4_dockAt
set_option maxRecDepth 20000 in
theorem ggX8_carryOut_X4_floatAlone : GoodIn wsX8_carryOut wsX4_floatAlone := goodIn_r _ [115, 38, 116, 117, 39, 40, 41, 36, 42, 43, 44, 45, 46, 47, 48, 10, 11, 12, 49, 50, 51, 52, 31, 32, 53, 54, 55, 56, 57, 58, 59, 60, 61, 62, 63, 64, 65, 66, 67, 68, 69, 70, 71, 72, 73, 74, 75, 76, 77, 78, 79, 80, 81, 82, 83, 84, 85, 86, 87, 88, 172, 173, 174, 175, 176, 177, 178, 179] (by decide +kernel) (by decide +kernel)
set_option maxRecDepth 20000 in
theorem gX8_carryOut_X4_floatAlone : GoodIn wsX8_carryOut (wsV RX8 124 RX4 yX4_floatAlone wsX4_floatAlone) := goodIn_app (goodIn_of _ (by decide +kernel)) ggX8_carryOut_X4_floatAlone
set_option maxRecDepth 20000 in
theorem ggX8_carryOut_X4_takeAway : GoodIn wsX8_carryOut wsX4_takeAway := goodIn_r _ [42, 43, 44, 38, 45, 46, 47, 48, 10, 11, 12, 49, 50, 51, 36, 52, 31, 32, 53, 54, 55, 56, 57, 58, 59, 60, 61, 62, 63, 64, 65, 66, 67, 68, 69, 70, 71, 72, 73, 74, 75, 76, 172, 173, 174, 175, 176, 177, 178, 179] (by decide +kernel) (by decide +kernel)
set_option maxRecDepth 20000 in
theorem gX8_carryOut_X4_takeAway : GoodIn wsX8_carryOut (wsV RX8 140 RX4 yX4_takeAway wsX4_takeAway) := goodIn_app (goodIn_of _ (by decide +kernel)) ggX8_carryOut_X4_takeAway
set_option maxRecDepth 20000 in
theorem ggX8_carryOut_X4_holderOf : GoodIn wsX8_carryOut wsX4_holderOf := goodIn_r _ [122, 43, 10, 11, 12, 172, 173, 174, 175, 176, 177, 178, 179] (by decide +kernel) (by decide +kernel)
set_option maxRecDepth 20000 in
theorem gX8_carryOut_X4_holderOf : GoodIn wsX8_carryOut (wsV RX8 103 RX4 yX4_holderOf wsX4_holderOf) := goodIn_app (goodIn_of _ (by decide +kernel)) ggX8_carryOut_X4_holderOf
set_option maxRecDepth 20000 in
theorem ggX8_carryOut_X4_changeWeight : GoodIn wsX8_carryOut wsX4_changeWeight := goodIn_r _ [126, 67, 31, 11, 32, 172, 173, 174, 175, 176, 177, 178, 179] (by decide +kernel) (by decide +kernel)
set_option maxRecDepth 20000 in
theorem gX8_carryOut_X4_changeWeight : GoodIn wsX8_carryOut (wsV RX8 167 RX4 yX4_changeWeight wsX4_changeWeight) := goodIn_app (goodIn_of _ (by decide +kernel)) ggX8_carryOut_X4_changeWeight
set_option maxRecDepth 20000 in
theorem ggX8_carryOut_X7_keep : GoodIn wsX8_carryOut wsX7_keep := goodIn_r _ [130, 131, 132, 133, 134, 135, 23, 136, 137, 138, 139, 140, 36, 141, 43, 44, 38, 67, 72, 93, 116, 117, 142, 11, 143, 144, 46, 47, 48, 145, 146, 147, 148, 31, 32, 159, 160, 161, 162, 163, 164, 165, 172, 173, 174, 175, 176, 177, 178, 179] (by decide +kernel) (by decide +kernel)
set_option maxRecDepth 20000 in
theorem gX8_carryOut_X7_keep : GoodIn wsX8_carryOut (wsV RX8 188 RX7 yX7_keep wsX7_keep) := goodIn_app (goodIn_of _ (by decide +kernel)) ggX8_carryOut_X7_keep
set_option maxRecDepth 20000 in
theorem ggX8_carryOut_X7_takeKept : GoodIn wsX8_carryOut wsX7_takeKept := goodIn_r _ [152, 131, 133, 134, 135, 23, 136, 137, 138, 139, 140, 36, 141, 43, 44, 38, 67, 72, 93, 116, 117, 142, 11, 143, 144, 46, 47, 48, 145, 146, 147, 148, 159, 160, 161, 162, 163, 164, 165, 172, 173, 174, 175, 176, 177, 178, 179] (by decide +kernel) (by decide +kernel)
set_option maxRecDepth 20000 in
theorem gX8_carryOut_X7_takeKept : GoodIn wsX8_carryOut (wsV RX8 194 RX7 yX7_takeKept wsX7_takeKept) := goodIn_app (goodIn_of _ (by decide +kernel)) ggX8_carryOut_X7_takeKept
theorem dX8_carryOut_0 : decode cX8_carryOut 0 = .ok (.aload_n 1, 1) := by decide +kernel
theorem dX8_carryOut_1 : decode cX8_carryOut 1 = .ok (.ifnonnull 4, 3) := by decide +kernel
theorem dX8_carryOut_4 : decode cX8_carryOut 4 = .ok (.return_, 1) := by decide +kernel
theorem dX8_carryOut_5 : decode cX8_carryOut 5 = .ok (.aload_n 0, 1) := by decide +kernel
theorem dX8_carryOut_6 : decode cX8_carryOut 6 = .ok (.getfield 26, 3) := by decide +kernel
theorem dX8_carryOut_9 : decode cX8_carryOut 9 = .ok (.iconst 0, 1) := by decide +kernel
theorem dX8_carryOut_10 : decode cX8_carryOut 10 = .ok (.invokevirtual 343, 3) := by decide +kernel
theorem dX8_carryOut_13 : decode cX8_carryOut 13 = .ok (.istore_n 2, 1) := by decide +kernel
theorem dX8_carryOut_14 : decode cX8_carryOut 14 = .ok (.aload_n 0, 1) := by decide +kernel
theorem dX8_carryOut_15 : decode cX8_carryOut 15 = .ok (.getfield 26, 3) := by decide +kernel
theorem dX8_carryOut_18 : decode cX8_carryOut 18 = .ok (.iconst 1, 1) := by decide +kernel
theorem dX8_carryOut_19 : decode cX8_carryOut 19 = .ok (.invokevirtual 343, 3) := by decide +kernel
theorem dX8_carryOut_22 : decode cX8_carryOut 22 = .ok (.istore_n 3, 1) := by decide +kernel
theorem dX8_carryOut_23 : decode cX8_carryOut 23 = .ok (.getstatic 346, 3) := by decide +kernel
theorem dX8_carryOut_26 : decode cX8_carryOut 26 = .ok (.aload_n 1, 1) := by decide +kernel
theorem dX8_carryOut_27 : decode cX8_carryOut 27 = .ok (.invokevirtual 351, 3) := by decide +kernel
theorem dX8_carryOut_30 : decode cX8_carryOut 30 = .ok (.iaload, 1) := by decide +kernel
theorem dX8_carryOut_31 : decode cX8_carryOut 31 = .ok (.tableswitch 180 1 7 #[41, 53, 68, 91, 130, 144, 169], 41) := by decide +kernel
theorem dX8_carryOut_72 : decode cX8_carryOut 72 = .ok (.aload_n 0, 1) := by decide +kernel
theorem dX8_carryOut_73 : decode cX8_carryOut 73 = .ok (.getfield 12, 3) := by decide +kernel
theorem dX8_carryOut_76 : decode cX8_carryOut 76 = .ok (.iload_n 2, 1) := by decide +kernel
theorem dX8_carryOut_77 : decode cX8_carryOut 77 = .ok (.iload_n 3, 1) := by decide +kernel
theorem dX8_carryOut_78 : decode cX8_carryOut 78 = .ok (.invokevirtual 72, 3) := by decide +kernel
theorem dX8_carryOut_81 : decode cX8_carryOut 81 = .ok (.goto 138, 3) := by decide +kernel
theorem dX8_carryOut_84 : decode cX8_carryOut 84 = .ok (.aload_n 0, 1) := by decide +kernel
theorem dX8_carryOut_85 : decode cX8_carryOut 85 = .ok (.getfield 12, 3) := by decide +kernel
theorem dX8_carryOut_88 : decode cX8_carryOut 88 = .ok (.getfield 97, 3) := by decide +kernel
theorem dX8_carryOut_91 : decode cX8_carryOut 91 = .ok (.iload_n 2, 1) := by decide +kernel
theorem dX8_carryOut_92 : decode cX8_carryOut 92 = .ok (.iload_n 3, 1) := by decide +kernel
theorem dX8_carryOut_93 : decode cX8_carryOut 93 = .ok (.invokevirtual 113, 3) := by decide +kernel
theorem dX8_carryOut_96 : decode cX8_carryOut 96 = .ok (.goto 123, 3) := by decide +kernel
theorem dX8_carryOut_99 : decode cX8_carryOut 99 = .ok (.aload_n 0, 1) := by decide +kernel
theorem dX8_carryOut_100 : decode cX8_carryOut 100 = .ok (.getfield 12, 3) := by decide +kernel
theorem dX8_carryOut_103 : decode cX8_carryOut 103 = .ok (.getfield 97, 3) := by decide +kernel
theorem dX8_carryOut_106 : decode cX8_carryOut 106 = .ok (.iload_n 2, 1) := by decide +kernel
theorem dX8_carryOut_107 : decode cX8_carryOut 107 = .ok (.iload_n 3, 1) := by decide +kernel
theorem dX8_carryOut_108 : decode cX8_carryOut 108 = .ok (.aload_n 0, 1) := by decide +kernel
theorem dX8_carryOut_109 : decode cX8_carryOut 109 = .ok (.getfield 26, 3) := by decide +kernel
theorem dX8_carryOut_112 : decode cX8_carryOut 112 = .ok (.iconst 2, 1) := by decide +kernel
theorem dX8_carryOut_113 : decode cX8_carryOut 113 = .ok (.invokevirtual 343, 3) := by decide +kernel
theorem dX8_carryOut_116 : decode cX8_carryOut 116 = .ok (.invokevirtual 100, 3) := by decide +kernel
theorem dX8_carryOut_119 : decode cX8_carryOut 119 = .ok (.goto 100, 3) := by decide +kernel
theorem dX8_carryOut_122 : decode cX8_carryOut 122 = .ok (.aload_n 0, 1) := by decide +kernel
theorem dX8_carryOut_123 : decode cX8_carryOut 123 = .ok (.getfield 12, 3) := by decide +kernel
theorem dX8_carryOut_126 : decode cX8_carryOut 126 = .ok (.getfield 97, 3) := by decide +kernel
theorem dX8_carryOut_129 : decode cX8_carryOut 129 = .ok (.iload_n 2, 1) := by decide +kernel
theorem dX8_carryOut_130 : decode cX8_carryOut 130 = .ok (.iload_n 3, 1) := by decide +kernel
theorem dX8_carryOut_131 : decode cX8_carryOut 131 = .ok (.aload_n 0, 1) := by decide +kernel
theorem dX8_carryOut_132 : decode cX8_carryOut 132 = .ok (.getfield 26, 3) := by decide +kernel
theorem dX8_carryOut_135 : decode cX8_carryOut 135 = .ok (.iconst 2, 1) := by decide +kernel
theorem dX8_carryOut_136 : decode cX8_carryOut 136 = .ok (.invokevirtual 343, 3) := by decide +kernel
theorem dX8_carryOut_139 : decode cX8_carryOut 139 = .ok (.aload_n 0, 1) := by decide +kernel
theorem dX8_carryOut_140 : decode cX8_carryOut 140 = .ok (.getfield 26, 3) := by decide +kernel
theorem dX8_carryOut_143 : decode cX8_carryOut 143 = .ok (.iconst 3, 1) := by decide +kernel
theorem dX8_carryOut_144 : decode cX8_carryOut 144 = .ok (.invokevirtual 343, 3) := by decide +kernel
theorem dX8_carryOut_147 : decode cX8_carryOut 147 = .ok (.aload_n 0, 1) := by decide +kernel
theorem dX8_carryOut_148 : decode cX8_carryOut 148 = .ok (.getfield 26, 3) := by decide +kernel
theorem dX8_carryOut_151 : decode cX8_carryOut 151 = .ok (.iconst 4, 1) := by decide +kernel
theorem dX8_carryOut_152 : decode cX8_carryOut 152 = .ok (.invokevirtual 343, 3) := by decide +kernel
theorem dX8_carryOut_155 : decode cX8_carryOut 155 = .ok (.invokevirtual 124, 3) := by decide +kernel
theorem dX8_carryOut_158 : decode cX8_carryOut 158 = .ok (.goto 61, 3) := by decide +kernel
theorem dX8_carryOut_161 : decode cX8_carryOut 161 = .ok (.aload_n 0, 1) := by decide +kernel
theorem dX8_carryOut_162 : decode cX8_carryOut 162 = .ok (.getfield 12, 3) := by decide +kernel
theorem dX8_carryOut_165 : decode cX8_carryOut 165 = .ok (.getfield 97, 3) := by decide +kernel
theorem dX8_carryOut_168 : decode cX8_carryOut 168 = .ok (.iload_n 2, 1) := by decide +kernel
theorem dX8_carryOut_169 : decode cX8_carryOut 169 = .ok (.invokevirtual 140, 3) := by decide +kernel
theorem dX8_carryOut_172 : decode cX8_carryOut 172 = .ok (.goto 47, 3) := by decide +kernel
theorem dX8_carryOut_175 : decode cX8_carryOut 175 = .ok (.aload_n 0, 1) := by decide +kernel
theorem dX8_carryOut_176 : decode cX8_carryOut 176 = .ok (.getfield 12, 3) := by decide +kernel
theorem dX8_carryOut_179 : decode cX8_carryOut 179 = .ok (.getfield 97, 3) := by decide +kernel
theorem dX8_carryOut_182 : decode cX8_carryOut 182 = .ok (.aload_n 0, 1) := by decide +kernel
theorem dX8_carryOut_183 : decode cX8_carryOut 183 = .ok (.getfield 12, 3) := by decide +kernel
theorem dX8_carryOut_186 : decode cX8_carryOut 186 = .ok (.getfield 97, 3) := by decide +kernel
theorem dX8_carryOut_189 : decode cX8_carryOut 189 = .ok (.iload_n 2, 1) := by decide +kernel
theorem dX8_carryOut_190 : decode cX8_carryOut 190 = .ok (.invokevirtual 103, 3) := by decide +kernel
theorem dX8_carryOut_193 : decode cX8_carryOut 193 = .ok (.iload_n 3, 1) := by decide +kernel
theorem dX8_carryOut_194 : decode cX8_carryOut 194 = .ok (.invokevirtual 167, 3) := by decide +kernel
theorem dX8_carryOut_197 : decode cX8_carryOut 197 = .ok (.goto 22, 3) := by decide +kernel
theorem dX8_carryOut_200 : decode cX8_carryOut 200 = .ok (.aload_n 0, 1) := by decide +kernel
theorem dX8_carryOut_201 : decode cX8_carryOut 201 = .ok (.getfield 12, 3) := by decide +kernel
theorem dX8_carryOut_204 : decode cX8_carryOut 204 = .ok (.iload_n 2, 1) := by decide +kernel
theorem dX8_carryOut_205 : decode cX8_carryOut 205 = .ok (.invokevirtual 188, 3) := by decide +kernel
theorem dX8_carryOut_208 : decode cX8_carryOut 208 = .ok (.goto 11, 3) := by decide +kernel
theorem dX8_carryOut_211 : decode cX8_carryOut 211 = .ok (.aload_n 0, 1) := by decide +kernel
theorem dX8_carryOut_212 : decode cX8_carryOut 212 = .ok (.getfield 12, 3) := by decide +kernel
theorem dX8_carryOut_215 : decode cX8_carryOut 215 = .ok (.iload_n 2, 1) := by decide +kernel
theorem dX8_carryOut_216 : decode cX8_carryOut 216 = .ok (.invokevirtual 194, 3) := by decide +kernel
theorem dX8_carryOut_219 : decode cX8_carryOut 219 = .ok (.return_, 1) := by decide +kernel
theorem hin_X8_carryOut_X8 : ∀ w ∈ wsX80, w ∈ wsX8_carryOut := by decide +kernel
theorem lk_X8_carryOut_26 : Cond.fieldLink RX8 26 RX8 "text" "LDockTree$CommandText;" ∈ wsX8_carryOut := by decide +kernel
theorem lk_X8_carryOut_12 : Cond.fieldLink RX8 12 RX8 "now" "LDockTree$State;" ∈ wsX8_carryOut := by decide +kernel
theorem hin_X8_carryOut_X7 : ∀ w ∈ wsX70, w ∈ wsX8_carryOut := by decide +kernel
theorem k_carryOut (hG : GP G) (hE : GE G) (hD : DoS S a c h t p b q) (hW : Wo mu c h t p) (hk : 0 ≤ mu t 5 ∧ mu t 5 ≤ 8) (hf : fcF mu c t = 0) : Ct G l yX8_carryOut wsX8_carryOut 5 0 0 [.ref a, eRef G (mu t 5)] S n mu la (Dt none S n (coM mu c t) la) := by
  have o8 := hD.1
  have o7 := hD.2.1.1
  have hT := hD.2.2.2.1
  have o2 := hT.1
  have hL := hD.2.1.2.2.1
  have o4 := hL.1
  have r := hW.1
  have hp := hW.2.2.1.2
  unfold coM
  unfold fcF at hf
  have hk9 : mu t 5 = 0 ∨ ∃ j : Nat, j < 8 ∧ mu t 5 = (j : Int) + 1 := by
    by_cases h0 : mu t 5 = 0
    · exact Or.inl h0
    · exact Or.inr ⟨(mu t 5 - 1).toNat, by omega, by omega⟩
  rcases hk9 with h0 | ⟨j, hj, h0⟩
  · rw [h0] at hf
    simp at hf
  · rw [h0, eRef_1]
    rw [h0] at hf
    refine Ct.ofV (cc := cX8_carryOut) (nL := 4) (ret := none) [some (.ref a), some (.ref (G.2.2.1 j)), none, none] hG (by decide) rfl (Nat.le_of_ble_eq_true rfl) rfl ?_
    rintro X rfl rfl C hcl hsl E
    refine V_aload_n C dX8_carryOut_0 rfl ?_
    refine V_ifnonnull C 5 dX8_carryOut_1 (by decide) ?_
    refine V_aload_n C dX8_carryOut_5 rfl ?_
    refine V_getR C 2 dX8_carryOut_6 o8 rfl hin_X8_carryOut_X8 (by decide) lk_X8_carryOut_26 rfl rfl ?_
    refine V_iconst C dX8_carryOut_9 ?_
    refine V_callVD (nA := 1) C dX8_carryOut_10 (z_number C.gp hT (by decide)) gX8_carryOut_X2_number rfl o2 rfl (by decide +kernel) rfl (by decide) (by decide) (Nat.le_of_ble_eq_true rfl) ⟨by omega, by omega⟩ rfl ?_
    refine V_istore_n C dX8_carryOut_13 rfl (by decide) ?_
    refine V_aload_n C dX8_carryOut_14 rfl ?_
    refine V_getR C 2 dX8_carryOut_15 o8 rfl hin_X8_carryOut_X8 (by decide) lk_X8_carryOut_26 rfl rfl ?_
    refine V_iconst C dX8_carryOut_18 ?_
    refine V_callVD (nA := 1) C dX8_carryOut_19 (z_number C.gp hT (by decide)) gX8_carryOut_X2_number rfl o2 rfl (by decide +kernel) rfl (by decide) (by decide) (Nat.le_of_ble_eq_true rfl) ⟨by omega, by omega⟩ rfl ?_
    refine V_istore_n C dX8_carryOut_22 rfl (by decide) ?_
    obtain ⟨-, ⟨aS, e1, e2⟩, -⟩ := hE _ C.pe.2.2
    have e := (hE _ C.pe.2.2).2.2.2.2 j hj
    refine V_gets C dX8_carryOut_23 e1 (by decide +kernel) ?_
    refine V_aload_n C dX8_carryOut_26 rfl ?_
    refine V_callU (nA := 0) (rest := [.ref aS]) C dX8_carryOut_27 (j_ordinal C.gp hE hj) gX8_carryOut_Jx29ce0_ordinal_8abf5_u351X1 rfl rfl (by decide +kernel) (by decide) (by decide) e.1 rfl (Nat.le_of_ble_eq_true rfl) ⟨by omega, by omega⟩ rfl ?_
    refine V_ti C dX8_carryOut_30 e2 (by omega) (by decide) ?_
    rw [Int.toNat_natCast]
    have hj9 : j = 0 ∨ j = 1 ∨ j = 2 ∨ j = 3 ∨ j = 4 ∨ j = 5 ∨ j = 6 ∨ j = 7 := by omega
    rcases hj9 with rfl | rfl | rfl | rfl | rfl | rfl | rfl | rfl
    · refine V_tableIn C 72 dX8_carryOut_31 (by omega) (by omega) (by omega) rfl (by decide) ?_
      refine V_aload_n C dX8_carryOut_72 rfl ?_
      refine V_getR C 0 dX8_carryOut_73 o8 rfl hin_X8_carryOut_X8 (by decide) lk_X8_carryOut_12 rfl rfl ?_
      refine V_iload_n C dX8_carryOut_76 rfl ?_
      refine V_iload_n C dX8_carryOut_77 rfl ?_
      refine V_callVD (nA := 2) C dX8_carryOut_78 (c_appendPane C.gp hD.2.1) gX8_carryOut_X7_appendPane rfl o7 rfl (by decide +kernel) rfl (by decide) (by decide) (Nat.le_of_ble_eq_true rfl) ⟨by omega, by omega⟩ rfl ?_
      refine V_goto C 219 dX8_carryOut_81 (by decide) ?_
      refine V_return C E dX8_carryOut_219 (by omega) (by omega) ?_
      exact Dt_rfl
    · have f0 := fgF_0 hf hp
      refine V_tableIn C 84 dX8_carryOut_31 (by omega) (by omega) (by omega) rfl (by decide) ?_
      refine V_aload_n C dX8_carryOut_84 rfl ?_
      refine V_getR C 0 dX8_carryOut_85 o8 rfl hin_X8_carryOut_X8 (by decide) lk_X8_carryOut_12 rfl rfl ?_
      refine V_getNR C 4 (host := "DockTree") dX8_carryOut_88 o7 rfl hin_X8_carryOut_X7 (by decide) (by decide +kernel) rfl rfl ?_
      refine V_iload_n C dX8_carryOut_91 rfl ?_
      refine V_iload_n C dX8_carryOut_92 rfl ?_
      refine V_callVD (nA := 2) C dX8_carryOut_93 (w_dockAtWindow C.gp hL hW.2.1 (by omega) (by omega) (by omega)) gX8_carryOut_X4_dockAtWindow rfl o4 rfl (by decide +kernel) rfl (by decide) (by decide) (Nat.le_of_ble_eq_true rfl) ⟨by omega, by omega⟩ rfl ?_
      refine V_goto C 219 dX8_carryOut_96 (by decide) ?_
      refine V_return C E dX8_carryOut_219 (by omega) (by omega) ?_
      exact Dt_rfl
    · have f0 := fdF_0 hf hp
      refine V_tableIn C 99 dX8_carryOut_31 (by omega) (by omega) (by omega) rfl (by decide) ?_
      refine V_aload_n C dX8_carryOut_99 rfl ?_
      refine V_getR C 0 dX8_carryOut_100 o8 rfl hin_X8_carryOut_X8 (by decide) lk_X8_carryOut_12 rfl rfl ?_
      refine V_getNR C 4 (host := "DockTree") dX8_carryOut_103 o7 rfl hin_X8_carryOut_X7 (by decide) (by decide +kernel) rfl rfl ?_
      refine V_iload_n C dX8_carryOut_106 rfl ?_
      refine V_iload_n C dX8_carryOut_107 rfl ?_
      refine V_aload_n C dX8_carryOut_108 rfl ?_
      refine V_getR C 2 dX8_carryOut_109 o8 rfl hin_X8_carryOut_X8 (by decide) lk_X8_carryOut_26 rfl rfl ?_
      refine V_iconst C dX8_carryOut_112 ?_
      refine V_callVD (nA := 1) C dX8_carryOut_113 (z_number C.gp hT (by decide)) gX8_carryOut_X2_number rfl o2 rfl (by decide +kernel) rfl (by decide) (by decide) (Nat.le_of_ble_eq_true rfl) ⟨by omega, by omega⟩ rfl ?_
      refine V_callVD (nA := 3) C dX8_carryOut_116 (w_dockAt C.gp hL hW.2.1 (by omega) (by omega) (by omega) (by omega)) gX8_carryOut_X4_dockAt rfl o4 rfl (by decide +kernel) rfl (by decide) (by decide) (Nat.le_of_ble_eq_true rfl) ⟨by omega, by omega⟩ rfl ?_
      refine V_goto C 219 dX8_carryOut_119 (by decide) ?_
      refine V_return C E dX8_carryOut_219 (by omega) (by omega) ?_
      exact Dt_rfl
    · have f0 := fflF_0 hf hp
      refine V_tableIn C 122 dX8_carryOut_31 (by omega) (by omega) (by omega) rfl (by decide) ?_
      refine V_aload_n C dX8_carryOut_122 rfl ?_
      refine V_getR C 0 dX8_carryOut_123 o8 rfl hin_X8_carryOut_X8 (by decide) lk_X8_carryOut_12 rfl rfl ?_
      refine V_getNR C 4 (host := "DockTree") dX8_carryOut_126 o7 rfl hin_X8_carryOut_X7 (by decide) (by decide +kernel) rfl rfl ?_
      refine V_iload_n C dX8_carryOut_129 rfl ?_
      refine V_iload_n C dX8_carryOut_130 rfl ?_
      refine V_aload_n C dX8_carryOut_131 rfl ?_
      refine V_getR C 2 dX8_carryOut_132 o8 rfl hin_X8_carryOut_X8 (by decide) lk_X8_carryOut_26 rfl rfl ?_
      refine V_iconst C dX8_carryOut_135 ?_
      refine V_callVD (nA := 1) C dX8_carryOut_136 (z_number C.gp hT (by decide)) gX8_carryOut_X2_number rfl o2 rfl (by decide +kernel) rfl (by decide) (by decide) (Nat.le_of_ble_eq_true rfl) ⟨by omega, by omega⟩ rfl ?_
      refine V_aload_n C dX8_carryOut_139 rfl ?_
      refine V_getR C 2 dX8_carryOut_140 o8 rfl hin_X8_carryOut_X8 (by decide) lk_X8_carryOut_26 rfl rfl ?_
      refine V_iconst C dX8_carryOut_143 ?_
      refine V_callVD (nA := 1) C dX8_carryOut_144 (z_number C.gp hT (by decide)) gX8_carryOut_X2_number rfl o2 rfl (by decide +kernel) rfl (by decide) (by decide) (Nat.le_of_ble_eq_true rfl) ⟨by omega, by omega⟩ rfl ?_
      refine V_aload_n C dX8_carryOut_147 rfl ?_
      refine V_getR C 2 dX8_carryOut_148 o8 rfl hin_X8_carryOut_X8 (by decide) lk_X8_carryOut_26 rfl rfl ?_
      refine V_iconst C dX8_carryOut_151 ?_
      refine V_callVD (nA := 1) C dX8_carryOut_152 (z_number C.gp hT (by decide)) gX8_carryOut_X2_number rfl o2 rfl (by decide +kernel) rfl (by decide) (by decide) (Nat.le_of_ble_eq_true rfl) ⟨by omega, by omega⟩ rfl ?_
      refine V_callVD (nA := 5) C dX8_carryOut_155 (w_floatAlone C.gp hL hW.2.1 (by omega) (by omega)) gX8_carryOut_X4_floatAlone rfl o4 rfl (by decide +kernel) rfl (by decide) (by decide) (Nat.le_of_ble_eq_true rfl) ⟨by omega, by omega⟩ rfl ?_
      refine V_goto C 219 dX8_carryOut_158 (by decide) ?_
      refine V_return C E dX8_carryOut_219 (by omega) (by omega) ?_
      exact Dt_rfl
    · have f0 := fpF_0 hf hp
      refine V_tableIn C 161 dX8_carryOut_31 (by omega) (by omega) (by omega) rfl (by decide) ?_
      refine V_aload_n C dX8_carryOut_161 rfl ?_
      refine V_getR C 0 dX8_carryOut_162 o8 rfl hin_X8_carryOut_X8 (by decide) lk_X8_carryOut_12 rfl rfl ?_
      refine V_getNR C 4 (host := "DockTree") dX8_carryOut_165 o7 rfl hin_X8_carryOut_X7 (by decide) (by decide +kernel) rfl rfl ?_
      refine V_iload_n C dX8_carryOut_168 rfl ?_
      refine V_callVD (nA := 1) C dX8_carryOut_169 (w_takeAway C.gp hL hW.2.1 (by omega) (by omega)) gX8_carryOut_X4_takeAway rfl o4 rfl (by decide +kernel) rfl (by decide) (by decide) (Nat.le_of_ble_eq_true rfl) ⟨by omega, by omega⟩ rfl ?_
      refine V_goto C 219 dX8_carryOut_172 (by decide) ?_
      refine V_return C E dX8_carryOut_219 (by omega) (by omega) ?_
      exact Dt_rfl
    · have f0 := fshF_0 hf hp
      refine V_tableIn C 175 dX8_carryOut_31 (by omega) (by omega) (by omega) rfl (by decide) ?_
      refine V_aload_n C dX8_carryOut_175 rfl ?_
      refine V_getR C 0 dX8_carryOut_176 o8 rfl hin_X8_carryOut_X8 (by decide) lk_X8_carryOut_12 rfl rfl ?_
      refine V_getNR C 4 (host := "DockTree") dX8_carryOut_179 o7 rfl hin_X8_carryOut_X7 (by decide) (by decide +kernel) rfl rfl ?_
      refine V_aload_n C dX8_carryOut_182 rfl ?_
      refine V_getR C 0 dX8_carryOut_183 o8 rfl hin_X8_carryOut_X8 (by decide) lk_X8_carryOut_12 rfl rfl ?_
      refine V_getNR C 4 (host := "DockTree") dX8_carryOut_186 o7 rfl hin_X8_carryOut_X7 (by decide) (by decide +kernel) rfl rfl ?_
      refine V_iload_n C dX8_carryOut_189 rfl ?_
      refine V_callVD (nA := 1) C dX8_carryOut_190 (w_holderOf C.gp hL) gX8_carryOut_X4_holderOf rfl o4 rfl (by decide +kernel) rfl (by decide) (by decide) (Nat.le_of_ble_eq_true rfl) ⟨by omega, by omega⟩ rfl ?_
      refine V_iload_n C dX8_carryOut_193 rfl ?_
      refine V_callVD (nA := 2) C dX8_carryOut_194 (ws_changeWeight C.gp hL) gX8_carryOut_X4_changeWeight rfl o4 rfl (by decide +kernel) rfl (by decide) (by decide) (Nat.le_of_ble_eq_true rfl) ⟨by omega, by omega⟩ rfl ?_
      refine V_goto C 219 dX8_carryOut_197 (by decide) ?_
      refine V_return C E dX8_carryOut_219 (by omega) (by omega) ?_
      exact Dt_rfl
    · have f0 : 0 ≤ mu (t + 2) 0 ∧ mu (t + 2) 0 ≤ 3 := by
        have hf : frF (mu (t + 2) 0) 0 3 = 0 := hf
        unfold frF at hf
        split at hf <;> omega
      refine V_tableIn C 200 dX8_carryOut_31 (by omega) (by omega) (by omega) rfl (by decide) ?_
      refine V_aload_n C dX8_carryOut_200 rfl ?_
      refine V_getR C 0 dX8_carryOut_201 o8 rfl hin_X8_carryOut_X8 (by decide) lk_X8_carryOut_12 rfl rfl ?_
      refine V_iload_n C dX8_carryOut_204 rfl ?_
      rw [← Int.toNat_of_nonneg f0.1]
      refine V_callVD (nA := 1) C dX8_carryOut_205 (c_keep C.gp hD.2.1 (by omega)) gX8_carryOut_X7_keep rfl o7 rfl (by decide +kernel) rfl (by decide) (by decide) (Nat.le_of_ble_eq_true rfl) ⟨by omega, by omega⟩ rfl ?_
      refine V_goto C 219 dX8_carryOut_208 (by decide) ?_
      refine V_return C E dX8_carryOut_219 (by omega) (by omega) ?_
      exact Dt_rfl
    · have f0 : 0 ≤ mu (t + 2) 0 ∧ mu (t + 2) 0 ≤ 3 := by
        have hf : flF8 mu c (mu (t + 2) 0) = 0 := hf
        unfold flF8 at hf
        split at hf <;> omega
      refine V_tableOut C 211 dX8_carryOut_31 (by omega) (by omega) (by decide) ?_
      refine V_aload_n C dX8_carryOut_211 rfl ?_
      refine V_getR C 0 dX8_carryOut_212 o8 rfl hin_X8_carryOut_X8 (by decide) lk_X8_carryOut_12 rfl rfl ?_
      refine V_iload_n C dX8_carryOut_215 rfl ?_
      rw [← Int.toNat_of_nonneg f0.1]
      refine V_callVD (nA := 1) C dX8_carryOut_216 (c_takeKept C.gp hD.2.1 (by omega)) gX8_carryOut_X7_takeKept rfl o7 rfl (by decide +kernel) rfl (by decide) (by decide) (Nat.le_of_ble_eq_true rfl) ⟨by omega, by omega⟩ rfl ?_
      refine V_return C E dX8_carryOut_219 (by omega) (by omega) ?_
      exact Dt_rfl
/-- the run: (how many were carried out, the memory) -/
def rcG (c t : Nat) : Nat → Mem → Int → Int × Mem
  | 0, m, n => (n, m)
  | d + 1, m, n =>
    if (rnF m t (m t 3) (m t 5) (m (t + 2))).1 = 1 then
      (if fcF (txT m t (rnF m t (m t 3) (m t 5) (m (t + 2))).2) c t = 0 then rcG c t d (coM (txT m t (rnF m t (m t 3) (m t 5) (m (t + 2))).2) c t) (n + 1) else (n, txT m t (rnF m t (m t 3) (m t 5) (m (t + 2))).2))
    else (n, txT m t (rnF m t (m t 3) (m t 5) (m (t + 2))).2)
/-- the memory at the beginning of the run -/
def rc1 (mu : Mem) (t : Nat) : Mem := txT mu t (ftaF mu t (mu t 5) (mu (t + 2)))
def rc0 (mu : Mem) (c h t : Nat) : Mem := txM (pshM (rc1 mu t) c h) t 0 (-1) (pshM (rc1 mu t) c h t 5) (pshM (rc1 mu t) c h (t + 2))
theorem Wo_rn {S : Sh} {m : Mem} (hD : DoS S a c h t p b q) (w : Wo m c h t p ∧ (0 ≤ m t 3 ∧ m t 3 ≤ m t 2) ∧ m t 4 = -1 ∧ 0 ≤ m t 5 ∧ m t 5 ≤ 8) : Wo (txT m t (rnF m t (m t 3) (m t 5) (m (t + 2))).2) c h t p := by
  have hn := w.1.2.2.2.2.2.1
  have bb := rnF_b m t (m t 5) (m (t + 2)) w.2.1 w.2.2.2
  have bN := rnF_N m t (m t 3) (m t 5) (N := m (t + 2)) (fun j => w.1.1 _ j)
  exact Wo_tx hD w.1 (by omega) (by omega) (by omega) bN
set_option maxRecDepth 20000 in
theorem ggX8_runCommands_X2_faultOfAll : GoodIn wsX8_runCommands wsX2_faultOfAll := goodIn_r _ [8, 9, 10, 11, 12, 7, 13, 14, 15, 16, 17, 18, 19, 20, 21, 22, 23, 24, 25, 26, 27, 28, 29, 30, 31, 32, 33, 34, 35, 36, 37, 38, 39, 40, 41, 42, 43, 44, 45, 46, 47, 48, 49, 50, 51, 52, 53, 54, 55, 56, 57, 58, 59, 60, 61, 62, 63, 64, 65, 66, 67, 68, 69, 70, 71, 72, 73, 74, 75, 76, 77, 78, 79, 80, 81, 82, 83, 84, 85, 86, 87, 88, 89, 90, 91, 92, 93, 94, 95, 96, 97, 98, 99, 100, 101, 102, 103, 104, 478, 479, 480, 481, 482, 483] (by decide +kernel) (by decide +kernel)
set_option maxRecDepth 20000 in
theorem gX8_runCommands_X2_faultOfAll : GoodIn wsX8_runCommands (wsV RX8 269 RX2 yX2_faultOfAll wsX2_faultOfAll) := goodIn_app (goodIn_of _ (by decide +kernel)) ggX8_runCommands_X2_faultOfAll
set_option maxRecDepth 20000 in
theorem ggX8_runCommands_X3_push : GoodIn wsX8_runCommands wsX3_push := goodIn_r _ [109, 110, 111, 112, 113, 114, 115, 116, 117, 118, 108, 119, 120, 121, 122, 123, 124, 125, 126, 127, 128, 129, 130, 131, 132, 31, 133, 134, 135, 136, 137, 138, 139, 140, 141, 142, 143, 144, 145, 146, 147, 148, 149, 150, 151, 152, 153, 154, 155, 156, 157, 158, 159, 160, 30, 32, 484, 485, 486, 487, 488, 489, 490, 491, 492, 493, 494, 495, 496, 497, 498, 499, 500, 501] (by decide +kernel) (by decide +kernel)
set_option maxRecDepth 20000 in
theorem gX8_runCommands_X3_push : GoodIn wsX8_runCommands (wsV RX8 55 RX3 yX3_push wsX3_push) := goodIn_app (goodIn_of _ (by decide +kernel)) ggX8_runCommands_X3_push
set_option maxRecDepth 20000 in
theorem ggX8_runCommands_X2_startReading : GoodIn wsX8_runCommands wsX2_startReading := goodIn_r _ [13, 14, 9, 478, 479, 480, 481, 482, 483] (by decide +kernel) (by decide +kernel)
set_option maxRecDepth 20000 in
theorem gX8_runCommands_X2_startReading : GoodIn wsX8_runCommands (wsV RX8 272 RX2 yX2_startReading wsX2_startReading) := goodIn_app (goodIn_of _ (by decide +kernel)) ggX8_runCommands_X2_startReading
set_option maxRecDepth 20000 in
theorem ggX8_runCommands_X2_readNext : GoodIn wsX8_runCommands wsX2_readNext := goodIn_r _ [18, 14, 19, 20, 9, 21, 22, 23, 7, 24, 25, 26, 27, 28, 29, 30, 31, 32, 33, 34, 35, 36, 37, 38, 39, 40, 41, 42, 43, 44, 45, 46, 47, 48, 49, 50, 51, 52, 53, 54, 55, 56, 57, 58, 59, 60, 61, 62, 63, 64, 65, 66, 67, 68, 69, 70, 71, 72, 73, 74, 75, 76, 77, 78, 79, 80, 81, 82, 83, 84, 85, 86, 87, 88, 89, 90, 91, 92, 93, 94, 95, 96, 97, 98, 99, 100, 101, 102, 103, 104, 478, 479, 480, 481, 482, 483] (by decide +kernel) (by decide +kernel)
set_option maxRecDepth 20000 in
theorem gX8_runCommands_X2_readNext : GoodIn wsX8_runCommands (wsV RX8 275 RX2 yX2_readNext wsX2_readNext) := goodIn_app (goodIn_of _ (by decide +kernel)) ggX8_runCommands_X2_readNext
set_option maxRecDepth 20000 in
theorem ggX8_runCommands_X2_command : GoodIn wsX8_runCommands wsX2_command := goodIn_r _ [166, 20, 478, 479, 480, 481, 482, 483] (by decide +kernel) (by decide +kernel)
set_option maxRecDepth 20000 in
theorem gX8_runCommands_X2_command : GoodIn wsX8_runCommands (wsV RX8 279 RX2 yX2_command wsX2_command) := goodIn_app (goodIn_of _ (by decide +kernel)) ggX8_runCommands_X2_command
set_option maxRecDepth 20000 in
theorem ggX8_runCommands_X8_faultOfCommand : GoodIn wsX8_runCommands wsX8_faultOfCommand := goodIn_r _ [170, 1, 171, 172, 173, 174, 7, 175, 94, 30, 31, 32, 176, 177, 178, 179, 180, 181, 182, 183, 184, 185, 186, 3, 187, 188, 189, 190, 191, 192, 193, 194, 195, 196, 197, 198, 199, 200, 201, 202, 203, 204, 205, 206, 207, 142, 208, 144, 209, 210, 211, 212, 213, 214, 215, 216, 217, 218, 219, 220, 221, 222, 223, 224, 225, 226, 227, 228, 229, 230, 231, 232, 233, 234, 235, 236, 158, 159, 124, 160, 131, 472, 473, 474, 475, 476, 477, 478, 479, 480, 481, 482, 483, 487, 488, 489, 490, 491, 492, 493, 494, 495, 496, 497, 498, 499, 500, 501] (by decide +kernel) (by decide +kernel)
set_option maxRecDepth 20000 in
theorem gX8_runCommands_X8_faultOfCommand : GoodIn wsX8_runCommands (wsV RX8 283 RX8 yX8_faultOfCommand wsX8_faultOfCommand) := goodIn_app (goodIn_of _ (by decide +kernel)) ggX8_runCommands_X8_faultOfCommand
set_option maxRecDepth 20000 in
theorem ggX8_runCommands_X8_carryOut : GoodIn wsX8_runCommands wsX8_carryOut := goodIn_r _ [240, 1, 171, 3, 172, 173, 174, 7, 175, 94, 30, 31, 32, 176, 177, 178, 179, 180, 181, 182, 241, 242, 243, 124, 244, 128, 245, 246, 247, 248, 129, 103, 104, 249, 250, 251, 142, 252, 146, 253, 254, 255, 256, 144, 145, 257, 113, 114, 115, 258, 259, 260, 261, 262, 263, 264, 265, 227, 228, 266, 267, 268, 269, 270, 271, 272, 273, 147, 274, 275, 276, 277, 148, 278, 279, 280, 281, 282, 283, 284, 285, 286, 287, 288, 289, 290, 291, 292, 293, 294, 295, 296, 297, 149, 298, 299, 300, 301, 302, 303, 304, 305, 306, 307, 308, 309, 310, 311, 312, 313, 314, 315, 316, 317, 318, 319, 150, 151, 320, 222, 223, 224, 225, 321, 322, 323, 324, 325, 326, 327, 328, 130, 131, 152, 153, 154, 155, 156, 139, 140, 141, 143, 132, 133, 134, 135, 136, 137, 138, 329, 330, 331, 332, 472, 473, 474, 475, 476, 477, 487, 488, 489, 490, 491, 492, 493, 478, 479, 480, 481, 482, 483, 494, 495, 496, 497, 498, 499, 500, 501] (by decide +kernel) (by decide +kernel)
set_option maxRecDepth 20000 in
theorem gX8_runCommands_X8_carryOut : GoodIn wsX8_runCommands (wsV RX8 287 RX8 yX8_carryOut wsX8_carryOut) := goodIn_app (goodIn_of _ (by decide +kernel)) ggX8_runCommands_X8_carryOut
set_option maxRecDepth 20000 in
theorem ggX8_runCommands_X8_settle : GoodIn wsX8_runCommands wsX8_settle := goodIn_r _ [336, 337, 3, 338, 339, 340, 341, 342, 343, 344, 345, 346, 347, 348, 349, 350, 351, 352, 353, 354, 355, 356, 223, 224, 142, 225, 144, 30, 31, 32, 357, 358, 359, 360, 145, 103, 104, 361, 362, 363, 364, 365, 366, 367, 368, 369, 370, 371, 372, 373, 374, 146, 227, 228, 375, 376, 377, 378, 379, 380, 381, 114, 382, 383, 295, 296, 297, 149, 384, 385, 386, 387, 388, 389, 390, 391, 392, 150, 393, 394, 395, 396, 151, 397, 398, 399, 400, 401, 402, 403, 404, 405, 406, 407, 408, 409, 410, 411, 412, 413, 414, 415, 416, 417, 418, 419, 420, 421, 422, 423, 424, 425, 426, 427, 428, 429, 430, 431, 147, 432, 433, 434, 435, 436, 437, 438, 439, 440, 441, 442, 443, 444, 445, 446, 447, 448, 449, 450, 451, 452, 453, 454, 455, 456, 457, 458, 459, 460, 461, 462, 463, 464, 465, 466, 467, 468, 469, 470, 471, 472, 473, 474, 475, 476, 477, 487, 488, 489, 490, 491, 492, 493, 502, 503, 504, 505, 506, 507, 508, 509, 510, 511, 512, 513, 514, 494, 495, 496, 497, 498, 499, 500, 501, 515, 516, 517, 518, 519, 520] (by decide +kernel) (by decide +kernel)
set_option maxRecDepth 20000 in
theorem gX8_runCommands_X8_settle : GoodIn wsX8_runCommands (wsV RX8 66 RX8 yX8_settle wsX8_settle) := goodIn_app (goodIn_of _ (by decide +kernel)) ggX8_runCommands_X8_settle
theorem dX8_runCommands_0 : decode cX8_runCommands 0 = .ok (.aload_n 0, 1) := by decide +kernel
theorem dX8_runCommands_1 : decode cX8_runCommands 1 = .ok (.getfield 26, 3) := by decide +kernel
theorem dX8_runCommands_4 : decode cX8_runCommands 4 = .ok (.invokevirtual 269, 3) := by decide +kernel
theorem dX8_runCommands_7 : decode cX8_runCommands 7 = .ok (.istore_n 1, 1) := by decide +kernel
theorem dX8_runCommands_8 : decode cX8_runCommands 8 = .ok (.iload_n 1, 1) := by decide +kernel
theorem dX8_runCommands_9 : decode cX8_runCommands 9 = .ok (.iconst (-1), 1) := by decide +kernel
theorem dX8_runCommands_10 : decode cX8_runCommands 10 = .ok (.if_icmp .eq 8, 3) := by decide +kernel
theorem dX8_runCommands_13 : decode cX8_runCommands 13 = .ok (.bipush (-10), 2) := by decide +kernel
theorem dX8_runCommands_15 : decode cX8_runCommands 15 = .ok (.iload_n 1, 1) := by decide +kernel
theorem dX8_runCommands_16 : decode cX8_runCommands 16 = .ok (.isub, 1) := by decide +kernel
theorem dX8_runCommands_17 : decode cX8_runCommands 17 = .ok (.ireturn, 1) := by decide +kernel
theorem dX8_runCommands_18 : decode cX8_runCommands 18 = .ok (.aload_n 0, 1) := by decide +kernel
theorem dX8_runCommands_19 : decode cX8_runCommands 19 = .ok (.getfield 19, 3) := by decide +kernel
theorem dX8_runCommands_22 : decode cX8_runCommands 22 = .ok (.aload_n 0, 1) := by decide +kernel
theorem dX8_runCommands_23 : decode cX8_runCommands 23 = .ok (.getfield 12, 3) := by decide +kernel
theorem dX8_runCommands_26 : decode cX8_runCommands 26 = .ok (.invokevirtual 55, 3) := by decide +kernel
theorem dX8_runCommands_29 : decode cX8_runCommands 29 = .ok (.iconst 0, 1) := by decide +kernel
theorem dX8_runCommands_30 : decode cX8_runCommands 30 = .ok (.istore_n 2, 1) := by decide +kernel
theorem dX8_runCommands_31 : decode cX8_runCommands 31 = .ok (.aload_n 0, 1) := by decide +kernel
theorem dX8_runCommands_32 : decode cX8_runCommands 32 = .ok (.getfield 26, 3) := by decide +kernel
theorem dX8_runCommands_35 : decode cX8_runCommands 35 = .ok (.invokevirtual 272, 3) := by decide +kernel
theorem dX8_runCommands_38 : decode cX8_runCommands 38 = .ok (.iload_n 2, 1) := by decide +kernel
theorem dX8_runCommands_39 : decode cX8_runCommands 39 = .ok (.sipush 150, 3) := by decide +kernel
theorem dX8_runCommands_42 : decode cX8_runCommands 42 = .ok (.if_icmp .ge 44, 3) := by decide +kernel
theorem dX8_runCommands_45 : decode cX8_runCommands 45 = .ok (.aload_n 0, 1) := by decide +kernel
theorem dX8_runCommands_46 : decode cX8_runCommands 46 = .ok (.getfield 26, 3) := by decide +kernel
theorem dX8_runCommands_49 : decode cX8_runCommands 49 = .ok (.invokevirtual 275, 3) := by decide +kernel
theorem dX8_runCommands_52 : decode cX8_runCommands 52 = .ok (.ifCond .eq 34, 3) := by decide +kernel
theorem dX8_runCommands_55 : decode cX8_runCommands 55 = .ok (.aload_n 0, 1) := by decide +kernel
theorem dX8_runCommands_56 : decode cX8_runCommands 56 = .ok (.aload_n 0, 1) := by decide +kernel
theorem dX8_runCommands_57 : decode cX8_runCommands 57 = .ok (.getfield 26, 3) := by decide +kernel
theorem dX8_runCommands_60 : decode cX8_runCommands 60 = .ok (.invokevirtual 279, 3) := by decide +kernel
theorem dX8_runCommands_63 : decode cX8_runCommands 63 = .ok (.invokevirtual 283, 3) := by decide +kernel
theorem dX8_runCommands_66 : decode cX8_runCommands 66 = .ok (.ifCond .ne 20, 3) := by decide +kernel
theorem dX8_runCommands_69 : decode cX8_runCommands 69 = .ok (.aload_n 0, 1) := by decide +kernel
theorem dX8_runCommands_70 : decode cX8_runCommands 70 = .ok (.aload_n 0, 1) := by decide +kernel
theorem dX8_runCommands_71 : decode cX8_runCommands 71 = .ok (.getfield 26, 3) := by decide +kernel
theorem dX8_runCommands_74 : decode cX8_runCommands 74 = .ok (.invokevirtual 279, 3) := by decide +kernel
theorem dX8_runCommands_77 : decode cX8_runCommands 77 = .ok (.invokevirtual 287, 3) := by decide +kernel
theorem dX8_runCommands_80 : decode cX8_runCommands 80 = .ok (.iinc 2 1, 3) := by decide +kernel
theorem dX8_runCommands_83 : decode cX8_runCommands 83 = .ok (.goto (-45), 3) := by decide +kernel
theorem dX8_runCommands_86 : decode cX8_runCommands 86 = .ok (.aload_n 0, 1) := by decide +kernel
theorem dX8_runCommands_87 : decode cX8_runCommands 87 = .ok (.invokevirtual 66, 3) := by decide +kernel
theorem dX8_runCommands_90 : decode cX8_runCommands 90 = .ok (.iload_n 2, 1) := by decide +kernel
theorem dX8_runCommands_91 : decode cX8_runCommands 91 = .ok (.ireturn, 1) := by decide +kernel
theorem hin_X8_runCommands_X8 : ∀ w ∈ wsX80, w ∈ wsX8_runCommands := by decide +kernel
theorem lk_X8_runCommands_26 : Cond.fieldLink RX8 26 RX8 "text" "LDockTree$CommandText;" ∈ wsX8_runCommands := by decide +kernel
theorem lk_X8_runCommands_19 : Cond.fieldLink RX8 19 RX8 "history" "LDockTree$History;" ∈ wsX8_runCommands := by decide +kernel
theorem lk_X8_runCommands_12 : Cond.fieldLink RX8 12 RX8 "now" "LDockTree$State;" ∈ wsX8_runCommands := by decide +kernel
theorem k_runFault (hG : GP G) (hE : GE G) (hD : DoS S a c h t p b q) (hW : Wo mu c h t p) (hk : 0 ≤ mu t 5 ∧ mu t 5 ≤ 8) (hf : (ftaF mu t (mu t 5) (mu (t + 2))).2.1 ≠ -1) : Ct G l yX8_runCommands wsX8_runCommands 8 0 0 [.ref a] S n mu la (Dt (some (.int (I32 (-10 - (ftaF mu t (mu t 5) (mu (t + 2))).2.1)))) S n (rc1 mu t) la) := by
  have o8 := hD.1
  have hT := hD.2.2.2.1
  have o2 := hT.1
  have hn := hW.2.2.2.2.2.1
  have bf := ftaF_b mu t (k := mu t 5) (N := mu (t + 2)) hn.1 hk (fun j => hW.1 _ j)
  unfold rc1
  refine Ct.ofV (cc := cX8_runCommands) (nL := 3) (ret := (some .int)) [some (.ref a), none, none] hG (by decide) rfl (Nat.le_of_ble_eq_true rfl) rfl ?_
  rintro X rfl rfl C hcl hsl E
  refine V_aload_n C dX8_runCommands_0 rfl ?_
  refine V_getR C 2 dX8_runCommands_1 o8 rfl hin_X8_runCommands_X8 (by decide) lk_X8_runCommands_26 rfl rfl ?_
  refine V_callVD (nA := 0) C dX8_runCommands_4 (z_faultOfAll C.gp hE hT hW.1 hn hk) gX8_runCommands_X2_faultOfAll rfl o2 rfl (by decide +kernel) rfl (by decide) (by decide) (Nat.le_of_ble_eq_true rfl) ⟨by omega, by omega⟩ rfl ?_
  refine V_istore_n C dX8_runCommands_7 rfl (by decide) ?_
  refine V_iload_n C dX8_runCommands_8 rfl ?_
  refine V_iconst C dX8_runCommands_9 ?_
  refine V_icmp_eq C 18 dX8_runCommands_10 (by decide) (by omega) (by omega) (fun z => ?_) (fun z => ?_)
  · exact absurd z hf
  · refine V_bipush C dX8_runCommands_13 (by decide +kernel) ?_
    refine V_iload_n C dX8_runCommands_15 rfl ?_
    refine V_isub C dX8_runCommands_16 ?_
    refine V_ireturn C E dX8_runCommands_17 (by omega) (by omega) ?_
    exact Dt_rfl
-- X8_runCommands
theorem k_runCommands (hG : GP G) (hE : GE G) (hD : DoS S a c h t p b q) (hW : Wo mu c h t p) (hk : 0 ≤ mu t 5 ∧ mu t 5 ≤ 8) (hf : (ftaF mu t (mu t 5) (mu (t + 2))).2.1 = -1) (Q : Mem → Prop) (hQ0 : Q (rc0 mu c h t)) (hQW : ∀ m, Q m → Wo m c h t p ∧ (0 ≤ m t 3 ∧ m t 3 ≤ m t 2) ∧ m t 4 = -1 ∧ 0 ≤ m t 5 ∧ m t 5 ≤ 8)
    (hQ1 : ∀ m, Q m → (rnF m t (m t 3) (m t 5) (m (t + 2))).1 = 1 → fcF (txT m t (rnF m t (m t 3) (m t 5) (m (t + 2))).2) c t = 0 → Q (coM (txT m t (rnF m t (m t 3) (m t 5) (m (t + 2))).2) c t)) :
    Ct G l yX8_runCommands wsX8_runCommands 8 0 0 [.ref a] S n mu la (Dt (some (.int (I32 (rcG c t 150 (rc0 mu c h t) 0).1))) S n (stlM (rcG c t 150 (rc0 mu c h t) 0).2 p c) la) := by
  have o8 := hD.1
  have hT := hD.2.2.2.1
  have o2 := hT.1
  have o7 := hD.2.1.1
  have o3 := hD.2.2.1.1
  have dj := hD.2.2.2.2.2.2.2
  have hn := hW.2.2.2.2.2.1
  have bf := ftaF_b mu t (k := mu t 5) (N := mu (t + 2)) hn.1 hk (fun j => hW.1 _ j)
  have hW1 : Wo (rc1 mu t) c h t p := Wo_tx hD hW (by omega) (by omega) (by omega) bf.2.2.2
  generalize eR : rcG c t 150 (rc0 mu c h t) 0 = R
  refine Ct.ofV (cc := cX8_runCommands) (nL := 3) (ret := (some .int)) [some (.ref a), none, none] hG (by decide) rfl (Nat.le_of_ble_eq_true rfl) rfl ?_
  rintro X rfl rfl C hcl hsl E
  have last : ∀ (m : Mem) (k : Int), R = (k, m) → Wo m c h t p → V X 86 [some (.ref a), some (.int (I32 (-1))), some (.int (I32 k))] [] S n m la 0 0 := by
    intro m k h1 h2
    subst h1
    refine V_aload_n C dX8_runCommands_86 rfl ?_
    refine V_callVD (nA := 0) C dX8_runCommands_87 (k_settle C.gp hD h2.1 h2.2.1 (by omega)) gX8_runCommands_X8_settle rfl o8 rfl (by decide +kernel) rfl (by decide) (by decide) (Nat.le_of_ble_eq_true rfl) ⟨by omega, by omega⟩ rfl ?_
    refine V_iload_n C dX8_runCommands_90 rfl ?_
    refine V_ireturn C E dX8_runCommands_91 (by omega) (by omega) ?_
    exact Dt_rfl
  have loop : ∀ (d : Nat) (k : Int) (m : Mem), k + d = 150 → 0 ≤ k → Q m → rcG c t d m k = R → V X 38 [some (.ref a), some (.int (I32 (-1))), some (.int (I32 k))] [] S n m la 0 0 := by
    intro d
    induction d with
    | zero =>
      intro k m h1 h2 h3 h4
      refine V_iload_n C dX8_runCommands_38 rfl ?_
      refine V_sipush C dX8_runCommands_39 (by decide +kernel) ?_
      refine V_icmp_ge C 86 dX8_runCommands_42 (by decide) (by omega) (by omega) (fun z => ?_) (fun z => ?_)
      · exact last _ _ h4.symm (hQW m h3).1
      · exact absurd z (by omega)
    | succ d ih =>
      intro k m h1 h2 h3 h4
      have w := hQW m h3
      have w1 := Wo_rn hD w
      have bb := rnF_b m t (m t 5) (m (t + 2)) w.2.1 w.2.2.2
      have hq1 := hQ1 m h3
      rw [rcG] at h4
      refine V_iload_n C dX8_runCommands_38 rfl ?_
      refine V_sipush C dX8_runCommands_39 (by decide +kernel) ?_
      refine V_icmp_ge C 86 dX8_runCommands_42 (by decide) (by omega) (by omega) (fun z => ?_) (fun z => ?_)
      · exact absurd z (by omega)
      · refine V_aload_n C dX8_runCommands_45 rfl ?_
        refine V_getR C 2 dX8_runCommands_46 o8 rfl hin_X8_runCommands_X8 (by decide) lk_X8_runCommands_26 rfl rfl ?_
        refine V_callVD (nA := 0) C dX8_runCommands_49 (z_readNext C.gp hE hT w.1.1 w.1.2.2.2.2.2.1 w.2.1 w.2.2.1 w.2.2.2) gX8_runCommands_X2_readNext rfl o2 rfl (by decide +kernel) rfl (by decide) (by decide) (Nat.le_of_ble_eq_true rfl) ⟨by omega, by omega⟩ rfl ?_
        generalize rnF m t (m t 3) (m t 5) (m (t + 2)) = Z at w1 bb hq1 h4
        have e5 : txT m t Z.2 t 5 = Z.2.2.2.1 := tx_5
        have hk5 : 0 ≤ txT m t Z.2 t 5 ∧ txT m t Z.2 t 5 ≤ 8 := by rw [e5]; omega
        generalize txT m t Z.2 = m1 at w1 hq1 h4 hk5
        refine V_if_eq C 86 dX8_runCommands_52 (by decide) (by omega) (fun z2 => ?_) (fun z2 => ?_)
        · rw [if_neg (by omega)] at h4
          exact last _ _ h4.symm w1
        · rw [if_pos (by omega)] at h4
          have bc := fcF_b m1 c t
          refine V_aload_n C dX8_runCommands_55 rfl ?_
          refine V_aload_n C dX8_runCommands_56 rfl ?_
          refine V_getR C 2 dX8_runCommands_57 o8 rfl hin_X8_runCommands_X8 (by decide) lk_X8_runCommands_26 rfl rfl ?_
          refine V_callVD (nA := 0) C dX8_runCommands_60 (z_command C.gp hT) gX8_runCommands_X2_command rfl o2 rfl (by decide +kernel) rfl (by decide) (by decide) (Nat.le_of_ble_eq_true rfl) ⟨by omega, by omega⟩ rfl ?_
          refine V_callVD (nA := 1) C dX8_runCommands_63 (k_faultOfCommand C.gp hE hD w1 hk5) gX8_runCommands_X8_faultOfCommand rfl o8 rfl (by decide +kernel) rfl (by decide) (by decide) (Nat.le_of_ble_eq_true rfl) ⟨by omega, by omega⟩ rfl ?_
          refine V_if_ne C 86 dX8_runCommands_66 (by decide) (by omega) (fun z3 => ?_) (fun z3 => ?_)
          · rw [if_neg z3] at h4
            exact last _ _ h4.symm w1
          · rw [if_pos z3] at h4
            refine V_aload_n C dX8_runCommands_69 rfl ?_
            refine V_aload_n C dX8_runCommands_70 rfl ?_
            refine V_getR C 2 dX8_runCommands_71 o8 rfl hin_X8_runCommands_X8 (by decide) lk_X8_runCommands_26 rfl rfl ?_
            refine V_callVD (nA := 0) C dX8_runCommands_74 (z_command C.gp hT) gX8_runCommands_X2_command rfl o2 rfl (by decide +kernel) rfl (by decide) (by decide) (Nat.le_of_ble_eq_true rfl) ⟨by omega, by omega⟩ rfl ?_
            refine V_callVD (nA := 1) C dX8_runCommands_77 (k_carryOut C.gp hE hD w1 hk5 z3) gX8_runCommands_X8_carryOut rfl o8 rfl (by decide +kernel) rfl (by decide) (by decide) (Nat.le_of_ble_eq_true rfl) ⟨by omega, by omega⟩ rfl ?_
            refine V_iinc C dX8_runCommands_80 rfl rfl (by decide) ?_
            refine V_goto C 38 dX8_runCommands_83 (by decide) ?_
            exact ih _ _ (by omega) (by omega) (hq1 (by omega) z3) h4
  refine V_aload_n C dX8_runCommands_0 rfl ?_
  refine V_getR C 2 dX8_runCommands_1 o8 rfl hin_X8_runCommands_X8 (by decide) lk_X8_runCommands_26 rfl rfl ?_
  refine V_callVD (nA := 0) C dX8_runCommands_4 (z_faultOfAll C.gp hE hT hW.1 hn hk) gX8_runCommands_X2_faultOfAll rfl o2 rfl (by decide +kernel) rfl (by decide) (by decide) (Nat.le_of_ble_eq_true rfl) ⟨by omega, by omega⟩ rfl ?_
  rw [hf]
  refine V_istore_n C dX8_runCommands_7 rfl (by decide) ?_
  refine V_iload_n C dX8_runCommands_8 rfl ?_
  refine V_iconst C dX8_runCommands_9 ?_
  refine V_icmp_eq C 18 dX8_runCommands_10 (by decide) (by omega) (by omega) (fun z => ?_) (fun z => ?_)
  · refine V_aload_n C dX8_runCommands_18 rfl ?_
    refine V_getR C 1 dX8_runCommands_19 o8 rfl hin_X8_runCommands_X8 (by decide) lk_X8_runCommands_19 rfl rfl ?_
    refine V_aload_n C dX8_runCommands_22 rfl ?_
    refine V_getR C 0 dX8_runCommands_23 o8 rfl hin_X8_runCommands_X8 (by decide) lk_X8_runCommands_12 rfl rfl ?_
    refine V_callVD (nA := 1) C dX8_runCommands_26 (c_push C.gp hD.2.2.1 hD.2.1 (by omega) hW1.1 hW1.2.2.2.1 hW1.2.2.2.2.1) gX8_runCommands_X3_push rfl o3 rfl (by decide +kernel) rfl (by decide) (by decide) (Nat.le_of_ble_eq_true rfl) ⟨by omega, by omega⟩ rfl ?_
    refine V_iconst C dX8_runCommands_29 ?_
    refine V_istore_n C dX8_runCommands_30 rfl (by decide) ?_
    refine V_aload_n C dX8_runCommands_31 rfl ?_
    refine V_getR C 2 dX8_runCommands_32 o8 rfl hin_X8_runCommands_X8 (by decide) lk_X8_runCommands_26 rfl rfl ?_
    refine V_callVD (nA := 0) C dX8_runCommands_35 (z_startReading C.gp hT) gX8_runCommands_X2_startReading rfl o2 rfl (by decide +kernel) rfl (by decide) (by decide) (Nat.le_of_ble_eq_true rfl) ⟨by omega, by omega⟩ rfl ?_
    exact loop 150 0 _ (by omega) (by omega) hQ0 eR
  · exact absurd rfl z
def ftyF (mu : Mem) (t : Nat) (v : Int) : Int := if 0 ≤ v ∧ v ≤ 127 then (if mu t 2 < 150 then 0 else 3) else 2
set_option maxRecDepth 20000 in
theorem ggX8_faultOfTyping_X8_faultOfRange : GoodIn wsX8_faultOfTyping wsX8_faultOfRange := goodIn_r _ [5] (by decide +kernel) (by decide +kernel)
set_option maxRecDepth 20000 in
theorem gX8_faultOfTyping_X8_faultOfRange : GoodIn wsX8_faultOfTyping (va_wsS RX8 200 yX8_faultOfRange wsX8_faultOfRange) := goodIn_app (goodIn_of _ (by decide +kernel)) ggX8_faultOfTyping_X8_faultOfRange
set_option maxRecDepth 20000 in
theorem ggX8_faultOfTyping_X2_length : GoodIn wsX8_faultOfTyping wsX2_length := goodIn_r _ [10, 11, 18, 19, 20, 21, 22, 23] (by decide +kernel) (by decide +kernel)
set_option maxRecDepth 20000 in
theorem gX8_faultOfTyping_X2_length : GoodIn wsX8_faultOfTyping (wsV RX8 263 RX2 yX2_length wsX2_length) := goodIn_app (goodIn_of _ (by decide +kernel)) ggX8_faultOfTyping_X2_length
theorem dX8_faultOfTyping_0 : decode cX8_faultOfTyping 0 = .ok (.iload_n 1, 1) := by decide +kernel
theorem dX8_faultOfTyping_1 : decode cX8_faultOfTyping 1 = .ok (.iconst 0, 1) := by decide +kernel
theorem dX8_faultOfTyping_2 : decode cX8_faultOfTyping 2 = .ok (.bipush 127, 2) := by decide +kernel
theorem dX8_faultOfTyping_4 : decode cX8_faultOfTyping 4 = .ok (.invokestatic 200, 3) := by decide +kernel
theorem dX8_faultOfTyping_7 : decode cX8_faultOfTyping 7 = .ok (.istore_n 2, 1) := by decide +kernel
theorem dX8_faultOfTyping_8 : decode cX8_faultOfTyping 8 = .ok (.iload_n 2, 1) := by decide +kernel
theorem dX8_faultOfTyping_9 : decode cX8_faultOfTyping 9 = .ok (.ifCond .ne 20, 3) := by decide +kernel
theorem dX8_faultOfTyping_12 : decode cX8_faultOfTyping 12 = .ok (.aload_n 0, 1) := by decide +kernel
theorem dX8_faultOfTyping_13 : decode cX8_faultOfTyping 13 = .ok (.getfield 26, 3) := by decide +kernel
theorem dX8_faultOfTyping_16 : decode cX8_faultOfTyping 16 = .ok (.invokevirtual 263, 3) := by decide +kernel
theorem dX8_faultOfTyping_19 : decode cX8_faultOfTyping 19 = .ok (.sipush 150, 3) := by decide +kernel
theorem dX8_faultOfTyping_22 : decode cX8_faultOfTyping 22 = .ok (.if_icmp .lt 7, 3) := by decide +kernel
theorem dX8_faultOfTyping_25 : decode cX8_faultOfTyping 25 = .ok (.iconst 3, 1) := by decide +kernel
theorem dX8_faultOfTyping_26 : decode cX8_faultOfTyping 26 = .ok (.goto 4, 3) := by decide +kernel
theorem dX8_faultOfTyping_29 : decode cX8_faultOfTyping 29 = .ok (.iload_n 2, 1) := by decide +kernel
theorem dX8_faultOfTyping_30 : decode cX8_faultOfTyping 30 = .ok (.ireturn, 1) := by decide +kernel
theorem hin_X8_faultOfTyping_X8 : ∀ w ∈ wsX80, w ∈ wsX8_faultOfTyping := by decide +kernel
theorem lk_X8_faultOfTyping_26 : Cond.fieldLink RX8 26 RX8 "text" "LDockTree$CommandText;" ∈ wsX8_faultOfTyping := by decide +kernel
theorem k_faultOfTyping (hG : GP G) (hD : DoS S a c h t p b q) (hW : Wo mu c h t p) {v : Int} (hv : -2147483648 ≤ v ∧ v ≤ 2147483647) : Ct G l yX8_faultOfTyping wsX8_faultOfTyping 1 0 0 [.ref a, .int (I32 v)] S n mu la (Dt (some (.int (I32 (ftyF mu t v)))) S n mu la) := by
  have o8 := hD.1
  have hT := hD.2.2.2.1
  have o2 := hT.1
  have hn := hW.2.2.2.2.2.1
  have b9 := frF_b v 0 127
  refine Ct.ofV (cc := cX8_faultOfTyping) (nL := 3) (ret := (some .int)) [some (.ref a), some (.int (I32 v)), none] hG (by decide) rfl (Nat.le_of_ble_eq_true rfl) rfl ?_
  rintro X rfl rfl C hcl hsl E
  refine V_iload_n C dX8_faultOfTyping_0 rfl ?_
  refine V_iconst C dX8_faultOfTyping_1 ?_
  refine V_bipush C dX8_faultOfTyping_2 (by decide +kernel) ?_
  refine V_callSD (nA := 3) C dX8_faultOfTyping_4 (k_faultOfRange C.gp hv (by omega) (by omega)) gX8_faultOfTyping_X8_faultOfRange rfl (by decide +kernel) rfl (by decide) (by decide) (Nat.le_of_ble_eq_true rfl) ⟨by omega, by omega⟩ rfl ?_
  refine V_istore_n C dX8_faultOfTyping_7 rfl (by decide) ?_
  refine V_iload_n C dX8_faultOfTyping_8 rfl ?_
  refine V_if_ne C 29 dX8_faultOfTyping_9 (by decide) (by omega) (fun z9 => ?_) (fun z9 => ?_)
  · refine V_iload_n C dX8_faultOfTyping_29 rfl ?_
    refine V_ireturn C E dX8_faultOfTyping_30 (by omega) (by omega) ?_
    exact Dt_int (by unfold ftyF; unfold frF at *; (repeat' split) <;> first | rfl | omega)
  · refine V_aload_n C dX8_faultOfTyping_12 rfl ?_
    refine V_getR C 2 dX8_faultOfTyping_13 o8 rfl hin_X8_faultOfTyping_X8 (by decide) lk_X8_faultOfTyping_26 rfl rfl ?_
    refine V_callVD (nA := 0) C dX8_faultOfTyping_16 (t_length C.gp hT) gX8_faultOfTyping_X2_length rfl o2 rfl (by decide +kernel) rfl (by decide) (by decide) (Nat.le_of_ble_eq_true rfl) ⟨by omega, by omega⟩ rfl ?_
    refine V_sipush C dX8_faultOfTyping_19 (by decide +kernel) ?_
    refine V_icmp_lt C 29 dX8_faultOfTyping_22 (by decide) (by omega) (by omega) (fun z22 => ?_) (fun z22 => ?_)
    · refine V_iload_n C dX8_faultOfTyping_29 rfl ?_
      refine V_ireturn C E dX8_faultOfTyping_30 (by omega) (by omega) ?_
      exact Dt_int (by unfold ftyF; unfold frF at *; (repeat' split) <;> first | rfl | omega)
    · refine V_iconst C dX8_faultOfTyping_25 ?_
      refine V_goto C 30 dX8_faultOfTyping_26 (by decide) ?_
      refine V_ireturn C E dX8_faultOfTyping_30 (by omega) (by omega) ?_
      exact Dt_int (by unfold ftyF; unfold frF at *; (repeat' split) <;> first | rfl | omega)
set_option maxRecDepth 20000 in
theorem ggX8_type_X8_faultOfTyping : GoodIn wsX8_type wsX8_faultOfTyping := goodIn_r _ [6, 1, 7, 8, 5, 9, 10, 11, 12, 13, 14, 15, 36, 37, 38, 39, 40, 41, 42, 43, 44, 45, 46, 47] (by decide +kernel) (by decide +kernel)
set_option maxRecDepth 20000 in
theorem gX8_type_X8_faultOfTyping : GoodIn wsX8_type (wsV RX8 257 RX8 yX8_faultOfTyping wsX8_faultOfTyping) := goodIn_app (goodIn_of _ (by decide +kernel)) ggX8_type_X8_faultOfTyping
set_option maxRecDepth 20000 in
theorem ggX8_type_X8_throwIf : GoodIn wsX8_type wsX8_throwIf := goodIn_ca (goodIn_ca (goodIn_ca (goodIn_r _ [18, 19, 20, 21, 22, 23, 24] (by decide +kernel) (by decide +kernel)) (goodIn_sub (fun _ h => List.mem_cons_of_mem _ (List.mem_append_left _ (List.mem_append_left _ (List.mem_append_right _ h)))) (by decide +kernel))) (goodIn_sub (fun _ h => List.mem_cons_of_mem _ (List.mem_append_left _ (List.mem_append_right _ h))) (by decide +kernel))) (goodIn_sub (fun _ h => List.mem_cons_of_mem _ (List.mem_append_right _ h)) (by decide +kernel))
set_option maxRecDepth 20000 in
theorem gX8_type_X8_throwIf : GoodIn wsX8_type (va_wsS RX8 51 yX8_throwIf wsX8_throwIf) := goodIn_app (goodIn_of _ (by decide +kernel)) ggX8_type_X8_throwIf
set_option maxRecDepth 20000 in
theorem ggX8_type_X2_append : GoodIn wsX8_type wsX2_append := goodIn_r _ [28, 29, 15, 30, 31, 32, 33, 34, 5, 35, 42, 43, 44, 45, 46, 47] (by decide +kernel) (by decide +kernel)
set_option maxRecDepth 20000 in
theorem gX8_type_X2_append : GoodIn wsX8_type (wsV RX8 260 RX2 yX2_append wsX2_append) := goodIn_app (goodIn_of _ (by decide +kernel)) ggX8_type_X2_append
set_option maxRecDepth 20000 in
theorem ggX8_type_X2_length : GoodIn wsX8_type wsX2_length := goodIn_r _ [14, 15, 42, 43, 44, 45, 46, 47] (by decide +kernel) (by decide +kernel)
set_option maxRecDepth 20000 in
theorem gX8_type_X2_length : GoodIn wsX8_type (wsV RX8 263 RX2 yX2_length wsX2_length) := goodIn_app (goodIn_of _ (by decide +kernel)) ggX8_type_X2_length
theorem dX8_type_0 : decode cX8_type 0 = .ok (.aload_n 0, 1) := by decide +kernel
theorem dX8_type_1 : decode cX8_type 1 = .ok (.iload_n 1, 1) := by decide +kernel
theorem dX8_type_2 : decode cX8_type 2 = .ok (.invokevirtual 257, 3) := by decide +kernel
theorem dX8_type_5 : decode cX8_type 5 = .ok (.invokestatic 51, 3) := by decide +kernel
theorem dX8_type_8 : decode cX8_type 8 = .ok (.aload_n 0, 1) := by decide +kernel
theorem dX8_type_9 : decode cX8_type 9 = .ok (.getfield 26, 3) := by decide +kernel
theorem dX8_type_12 : decode cX8_type 12 = .ok (.iload_n 1, 1) := by decide +kernel
theorem dX8_type_13 : decode cX8_type 13 = .ok (.invokevirtual 260, 3) := by decide +kernel
theorem dX8_type_16 : decode cX8_type 16 = .ok (.aload_n 0, 1) := by decide +kernel
theorem dX8_type_17 : decode cX8_type 17 = .ok (.getfield 26, 3) := by decide +kernel
theorem dX8_type_20 : decode cX8_type 20 = .ok (.invokevirtual 263, 3) := by decide +kernel
theorem dX8_type_23 : decode cX8_type 23 = .ok (.ireturn, 1) := by decide +kernel
theorem hin_X8_type_X8 : ∀ w ∈ wsX80, w ∈ wsX8_type := by decide +kernel
theorem lk_X8_type_26 : Cond.fieldLink RX8 26 RX8 "text" "LDockTree$CommandText;" ∈ wsX8_type := by decide +kernel
theorem k_type (hG : GP G) (hD : DoS S a c h t p b q) (hW : Wo mu c h t p) {v : Int} (hv : -2147483648 ≤ v ∧ v ≤ 2147483647) (hf : ftyF mu t v = 0) : Ct G l yX8_type wsX8_type 2 0 0 [.ref a, .int (I32 v)] S n mu la (Dt (some (.int (I32 (mu t 2 + 1)))) S n (up (up mu (t + 1) (mu t 2) v) t 2 (mu t 2 + 1)) la) := by
  have o8 := hD.1
  have hT := hD.2.2.2.1
  have o2 := hT.1
  have hn := hW.2.2.2.2.2.1
  have f0 : (0 ≤ v ∧ v ≤ 127) ∧ mu t 2 < 150 := by
    unfold ftyF at hf
    split at hf
    · split at hf
      · exact ⟨by assumption, by assumption⟩
      · omega
    · omega
  refine Ct.ofV (cc := cX8_type) (nL := 2) (ret := (some .int)) [some (.ref a), some (.int (I32 v))] hG (by decide) rfl (Nat.le_of_ble_eq_true rfl) rfl ?_
  rintro X rfl rfl C hcl hsl E
  refine V_aload_n C dX8_type_0 rfl ?_
  refine V_iload_n C dX8_type_1 rfl ?_
  refine V_callVD (nA := 1) C dX8_type_2 (k_faultOfTyping C.gp hD hW hv) gX8_type_X8_faultOfTyping rfl o8 rfl (by decide +kernel) rfl (by decide) (by decide) (Nat.le_of_ble_eq_true rfl) ⟨by omega, by omega⟩ rfl ?_
  rw [hf]
  refine V_callSD (nA := 1) C dX8_type_5 (c_throwIf0 C.gp) gX8_type_X8_throwIf rfl (by decide +kernel) rfl (by decide) (by decide) (Nat.le_of_ble_eq_true rfl) ⟨by omega, by omega⟩ rfl ?_
  refine V_aload_n C dX8_type_8 rfl ?_
  refine V_getR C 2 dX8_type_9 o8 rfl hin_X8_type_X8 (by decide) lk_X8_type_26 rfl rfl ?_
  refine V_iload_n C dX8_type_12 rfl ?_
  refine V_callVD (nA := 1) C dX8_type_13 (t_append C.gp hT (by omega) f0.1) gX8_type_X2_append rfl o2 rfl (by decide +kernel) rfl (by decide) (by decide) (Nat.le_of_ble_eq_true rfl) ⟨by omega, by omega⟩ rfl ?_
  refine V_aload_n C dX8_type_16 rfl ?_
  refine V_getR C 2 dX8_type_17 o8 rfl hin_X8_type_X8 (by decide) lk_X8_type_26 rfl rfl ?_
  refine V_callVD (nA := 0) C dX8_type_20 (t_length C.gp hT) gX8_type_X2_length rfl o2 rfl (by decide +kernel) rfl (by decide) (by decide) (Nat.le_of_ble_eq_true rfl) ⟨by omega, by omega⟩ rfl ?_
  rw [up_s]
  refine V_ireturn C E dX8_type_23 (by omega) (by omega) ?_
  exact Dt_rfl
-- X8_type
theorem x_type (hG : GP G) (hGX : GX G) (hl9 : l.stackTraces = false) (hD : DoS S a c h t p b q) (hW : Wo mu c h t p) {v : Int} (hv : -2147483648 ≤ v ∧ v ≤ 2147483647) (hf : ftyF mu t v = 1 ∨ ftyF mu t v = 2 ∨ ftyF mu t v = 3) : CtX G l yX8_type wsX8_type 7 [.ref a, .int (I32 v)] S n mu la (exn (ftyF mu t v)) := by
  have o8 := hD.1
  refine CtX.ofV (cc := cX8_type) (nL := 2) (ret := (some .int)) [some (.ref a), some (.int (I32 v))] hG (by decide) rfl (Nat.le_of_ble_eq_true rfl) rfl ?_
  rintro X rfl rfl C hcl hsl hnt E
  refine V_aload_n C dX8_type_0 rfl ?_
  refine V_iload_n C dX8_type_1 rfl ?_
  refine V_callVD (nA := 1) C dX8_type_2 (k_faultOfTyping C.gp hD hW hv) gX8_type_X8_faultOfTyping rfl o8 rfl (by decide +kernel) rfl (by decide) (by decide) (Nat.le_of_ble_eq_true rfl) ⟨by omega, by omega⟩ rfl ?_
  exact V_callSX (nA := 1) C hcl hsl hnt E dX8_type_5 (c_throwIfX C.gp hGX hl9 hf) gX8_type_X8_throwIf rfl (by decide +kernel) rfl (by omega) (by decide) (Nat.le_of_ble_eq_true rfl) rfl
set_option maxRecDepth 20000 in
theorem ggX8_clearCommands_X2_length : GoodIn wsX8_clearCommands wsX2_length := goodIn_r _ [6, 7, 18, 19, 20, 21, 22, 23] (by decide +kernel) (by decide +kernel)
set_option maxRecDepth 20000 in
theorem gX8_clearCommands_X2_length : GoodIn wsX8_clearCommands (wsV RX8 263 RX2 yX2_length wsX2_length) := goodIn_app (goodIn_of _ (by decide +kernel)) ggX8_clearCommands_X2_length
set_option maxRecDepth 20000 in
theorem ggX8_clearCommands_X2_empty : GoodIn wsX8_clearCommands wsX2_empty := goodIn_r _ [11, 7, 18, 19, 20, 21, 22, 23] (by decide +kernel) (by decide +kernel)
set_option maxRecDepth 20000 in
theorem gX8_clearCommands_X2_empty : GoodIn wsX8_clearCommands (wsV RX8 266 RX2 yX2_empty wsX2_empty) := goodIn_app (goodIn_of _ (by decide +kernel)) ggX8_clearCommands_X2_empty
theorem dX8_clearCommands_0 : decode cX8_clearCommands 0 = .ok (.aload_n 0, 1) := by decide +kernel
theorem dX8_clearCommands_1 : decode cX8_clearCommands 1 = .ok (.getfield 26, 3) := by decide +kernel
theorem dX8_clearCommands_4 : decode cX8_clearCommands 4 = .ok (.invokevirtual 263, 3) := by decide +kernel
theorem dX8_clearCommands_7 : decode cX8_clearCommands 7 = .ok (.istore_n 1, 1) := by decide +kernel
theorem dX8_clearCommands_8 : decode cX8_clearCommands 8 = .ok (.aload_n 0, 1) := by decide +kernel
theorem dX8_clearCommands_9 : decode cX8_clearCommands 9 = .ok (.getfield 26, 3) := by decide +kernel
theorem dX8_clearCommands_12 : decode cX8_clearCommands 12 = .ok (.invokevirtual 266, 3) := by decide +kernel
theorem dX8_clearCommands_15 : decode cX8_clearCommands 15 = .ok (.iload_n 1, 1) := by decide +kernel
theorem dX8_clearCommands_16 : decode cX8_clearCommands 16 = .ok (.ireturn, 1) := by decide +kernel
theorem hin_X8_clearCommands_X8 : ∀ w ∈ wsX80, w ∈ wsX8_clearCommands := by decide +kernel
theorem lk_X8_clearCommands_26 : Cond.fieldLink RX8 26 RX8 "text" "LDockTree$CommandText;" ∈ wsX8_clearCommands := by decide +kernel
theorem k_clearCommands (hG : GP G) (hD : DoS S a c h t p b q) : Ct G l yX8_clearCommands wsX8_clearCommands 1 0 0 [.ref a] S n mu la (Dt (some (.int (I32 (mu t 2)))) S n (up mu t 2 0) la) := by
  have o8 := hD.1
  have hT := hD.2.2.2.1
  have o2 := hT.1
  refine Ct.ofV (cc := cX8_clearCommands) (nL := 2) (ret := (some .int)) [some (.ref a), none] hG (by decide) rfl (Nat.le_of_ble_eq_true rfl) rfl ?_
  rintro X rfl rfl C hcl hsl E
  refine V_aload_n C dX8_clearCommands_0 rfl ?_
  refine V_getR C 2 dX8_clearCommands_1 o8 rfl hin_X8_clearCommands_X8 (by decide) lk_X8_clearCommands_26 rfl rfl ?_
  refine V_callVD (nA := 0) C dX8_clearCommands_4 (t_length C.gp hT) gX8_clearCommands_X2_length rfl o2 rfl (by decide +kernel) rfl (by decide) (by decide) (Nat.le_of_ble_eq_true rfl) ⟨by omega, by omega⟩ rfl ?_
  refine V_istore_n C dX8_clearCommands_7 rfl (by decide) ?_
  refine V_aload_n C dX8_clearCommands_8 rfl ?_
  refine V_getR C 2 dX8_clearCommands_9 o8 rfl hin_X8_clearCommands_X8 (by decide) lk_X8_clearCommands_26 rfl rfl ?_
  refine V_callVD (nA := 0) C dX8_clearCommands_12 (t_empty C.gp hT) gX8_clearCommands_X2_empty rfl o2 rfl (by decide +kernel) rfl (by decide) (by decide) (Nat.le_of_ble_eq_true rfl) ⟨by omega, by omega⟩ rfl ?_
  refine V_iload_n C dX8_clearCommands_15 rfl ?_
  refine V_ireturn C E dX8_clearCommands_16 (by omega) (by omega) ?_
  exact Dt_rfl
end D6
