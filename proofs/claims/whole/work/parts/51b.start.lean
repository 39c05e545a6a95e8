/-! WHAT THE START GIVES: the tables of the machine's memory, out of the Statement's premises -/
def nvL : List Cond := flatC (Jvm.Cond.and given_1 narrow_1)
def nmE : Nat → String
  | 0 => "PANE"
  | 1 => "EDGE"
  | 2 => "DOCK"
  | 3 => "FLOAT"
  | 4 => "CLOSE"
  | 5 => "SHARE"
  | 6 => "SAVE"
  | _ => "LOAD"
def kSE : Nat → Nat
  | 0 => 56
  | 1 => 62
  | 2 => 65
  | 3 => 68
  | 4 => 71
  | 5 => 74
  | 6 => 77
  | _ => 80
def tmE (i : Nat) : Term := .static RX1 (nmE i) "LDockTree$Command;"
def tsE (i : Nat) : Term := .string RX1 (kSE i)
def tvE (i : Nat) : Term := .field (tsE i) "java/lang/String" "value" "[B"
def taE : Term := .static RX1 "ALL" "[LDockTree$Command;"
def twE : Term := .static RX0 "$SwitchMap$DockTree$Command" "[I"
theorem en_0 : ∀ i, i < 8 → Cond.exactly (tmE i) RX1 ∈ nvL := by decide +kernel
theorem en_1 : ∀ i, i < 8 → Cond.eq (.field (tmE i) "java/lang/Enum" "ordinal" "I") (.int (I32 (i : Int))) ∈ nvL := by decide +kernel
theorem en_2 : ∀ i, i < 8 → Cond.eq (.field (tmE i) RX1 "numbers" "I") (.int (I32 (eRn i))) ∈ nvL := by decide +kernel
theorem en_3 : ∀ i, i < 8 → Cond.eq (.field (tmE i) RX1 "word" "Ljava/lang/String;") (tsE i) ∈ nvL := by decide +kernel
theorem en_4 : ∀ i, i < 8 → Cond.exactly (tsE i) "java/lang/String" ∈ nvL := by decide +kernel
theorem en_5 : ∀ i, i < 8 → Cond.eq (.field (tsE i) "java/lang/String" "coder" "B") (.int (I32 0)) ∈ nvL := by decide +kernel
theorem en_6 : ∀ i, i < 8 → Cond.arrayOf (tvE i) .byte ∈ nvL := by decide +kernel
theorem en_7 : ∀ i, i < 8 → Cond.eq (.length (tvE i)) (.int (Int32.ofNat (eRw i).length)) ∈ nvL := by decide +kernel
theorem en_8 : ∀ i, i < 8 → ∀ j, j < (eRw i).length → Cond.eq (.elem (tvE i) (.int (Int32.ofNat j))) (.int (I32 ((eRw i).getD j 0))) ∈ nvL := by decide +kernel
theorem en_9 : ∀ i, i < 8 → (eRw i).length < 2 ^ 31 := by decide +kernel
theorem ea_0 : Cond.arrayOf taE (.object RX1) ∈ nvL := by decide +kernel
theorem ea_1 : Cond.eq (.length taE) (.int (Int32.ofNat 8)) ∈ nvL := by decide +kernel
theorem ea_2 : ∀ j, j < 8 → Cond.eq (.elem taE (.int (Int32.ofNat j))) (tmE j) ∈ nvL := by decide +kernel
theorem ew_0 : Cond.arrayOf twE .int ∈ nvL := by decide +kernel
theorem ew_1 : Cond.eq (.length twE) (.int (Int32.ofNat 8)) ∈ nvL := by decide +kernel
theorem ew_2 : ∀ j, j < 8 → Cond.eq (.elem twE (.int (Int32.ofNat j))) (.int (I32 (((j : Int) + 1) % 8))) ∈ nvL := by decide +kernel
theorem es_0 : Cond.eq (.static "java/lang/String" "COMPACT_STRINGS" "Z") (.int (I32 1)) ∈ nvL := by decide +kernel
theorem es_1 : Cond.isRef (.static "jdk/internal/util/Preconditions" "SIOOBE_FORMATTER" "Ljava/util/function/BiFunction;") ∈ nvL := by decide +kernel
theorem es_2 : Cond.isRef (.static Bundle.tN "UNASSIGNED_STACK" Bundle.steD) ∈ nvL := by decide +kernel
theorem es_3 : Cond.isRef (.static Bundle.tN "SUPPRESSED_SENTINEL" Bundle.listD) ∈ nvL := by decide +kernel
theorem es_4 : Cond.exactly (.string RX8 358) "java/lang/String" ∈ nvL := by decide +kernel
theorem es_5 : Cond.exactly (.string RX8 365) "java/lang/String" ∈ nvL := by decide +kernel
theorem es_6 : Cond.exactly (.string RX8 370) "java/lang/String" ∈ nvL := by decide +kernel
theorem ex_12 : Cond.not (.castable xE1 xE2) ∈ nvL := by decide +kernel
theorem ex_13 : Cond.not (.castable xE1 xE3) ∈ nvL := by decide +kernel
theorem ex_21 : Cond.not (.castable xE2 xE1) ∈ nvL := by decide +kernel
theorem ex_23 : Cond.not (.castable xE2 xE3) ∈ nvL := by decide +kernel
theorem ex_31 : Cond.not (.castable xE3 xE1) ∈ nvL := by decide +kernel
theorem ex_32 : Cond.not (.castable xE3 xE2) ∈ nvL := by decide +kernel
theorem et_0 : Cond.laysStatic RX1 "ALL" "[LDockTree$Command;" ∈ lw_tbl := by decide +kernel
theorem et_1 : Cond.initialized RX1 ∈ lw_tbl := by decide +kernel
theorem et_2 : Cond.laysStatic RX0 "$SwitchMap$DockTree$Command" "[I" ∈ lw_tbl := by decide +kernel
theorem et_3 : Cond.initialized RX0 ∈ lw_tbl := by decide +kernel
theorem et_4 : Cond.laysStatic "java/lang/String" "COMPACT_STRINGS" "Z" ∈ lw_tbl := by decide +kernel
theorem et_5 : Cond.initialized "java/lang/String" ∈ lw_tbl := by decide +kernel
theorem et_6 : Cond.laysStatic "jdk/internal/util/Preconditions" "SIOOBE_FORMATTER" "Ljava/util/function/BiFunction;" ∈ lw_tbl := by decide +kernel
theorem et_7 : Cond.initialized "jdk/internal/util/Preconditions" ∈ lw_tbl := by decide +kernel
theorem et_8 : Cond.laysStatic Bundle.tN "UNASSIGNED_STACK" Bundle.steD ∈ lw_tbl := by decide +kernel
theorem et_9 : Cond.laysStatic Bundle.tN "SUPPRESSED_SENTINEL" Bundle.listD ∈ lw_tbl := by decide +kernel
theorem et_10 : Cond.initialized Bundle.tN ∈ lw_tbl := by decide +kernel
theorem et_11 : Cond.stringRef RX8 358 "there is no such pane or cell" ∈ lw_tbl := by decide +kernel
theorem et_12 : Cond.stringRef RX8 365 "an argument is out of range" ∈ lw_tbl := by decide +kernel
theorem et_13 : Cond.stringRef RX8 370 "what there is does not allow this" ∈ lw_tbl := by decide +kernel
theorem et_14 : Cond.arrayOver (.object RX4) ∈ lw_tbl := by decide +kernel
theorem et_15 : Cond.arrayOver (.object RX7) ∈ lw_tbl := by decide +kernel
theorem et_16 : Cond.arrayClass .int ∈ lw_tbl := by decide +kernel
theorem et_17 : Cond.arrayClass .long ∈ lw_tbl := by decide +kernel
theorem ei_2 : Cond.instantiable RX2 6 ∈ lw_tbl := by decide +kernel
theorem ei_3 : Cond.instantiable RX3 3 ∈ lw_tbl := by decide +kernel
theorem ei_4 : Cond.instantiable RX4 8 ∈ lw_tbl := by decide +kernel
theorem ei_5 : Cond.instantiable RX5 13 ∈ lw_tbl := by decide +kernel
theorem ei_6 : Cond.instantiable RX6 6 ∈ lw_tbl := by decide +kernel
theorem ei_7 : Cond.instantiable RX7 7 ∈ lw_tbl := by decide +kernel
theorem ei_8 : Cond.instantiable RX8 6 ∈ lw_tbl := by decide +kernel
theorem ei_9 : Cond.instantiable RX9 24 ∈ lw_tbl := by decide +kernel
theorem lw0_in {w : Cond} (h : w ∈ wsL_law0) : w ∈ lw_tbl := wsL_law_in w (List.mem_append_left _ (List.mem_append_left _ (List.mem_append_left _ h)))
theorem ow_8 : ∀ w ∈ wsX80, w ∈ wsL_law0 := fun w h => by
  unfold wsL_law0
  simp only [List.mem_append, h, true_or, or_true]
theorem ow_9 : ∀ w ∈ wsX90, w ∈ wsL_law0 := fun w h => by
  unfold wsL_law0
  simp only [List.mem_append, h, true_or, or_true]
theorem ow_7 : ∀ w ∈ wsX70, w ∈ wsL_law0 := fun w h => by
  unfold wsL_law0
  simp only [List.mem_append, h, true_or, or_true]
theorem ow_3 : ∀ w ∈ wsX30, w ∈ wsL_law0 := fun w h => by
  unfold wsL_law0
  simp only [List.mem_append, h, true_or, or_true]
theorem ow_2 : ∀ w ∈ wsX20, w ∈ wsL_law0 := fun w h => by
  unfold wsL_law0
  simp only [List.mem_append, h, true_or, or_true]
theorem ow_5 : ∀ w ∈ wsX50, w ∈ wsL_law0 := fun w h => by
  unfold wsL_law0
  simp only [List.mem_append, h, true_or, or_true]
theorem ow_4 : ∀ w ∈ wsX40, w ∈ wsL_law0 := fun w h => by
  unfold wsL_law0
  simp only [List.mem_append, h, true_or, or_true]
theorem ow_6 : ∀ w ∈ wsX60, w ∈ wsL_law0 := fun w h => by
  unfold wsL_law0
  simp only [List.mem_append, h, true_or, or_true]
def EnA (args : Array Value) (s : State) (A : Nat → Prop) (i : Nat) (q : Nat × Nat × Nat) : Prop :=
  (tmE i).eval args s none [] s = some (.ref q.1) ∧ va_O RX1 q.1 A s s.heap ∧ va_OF RX1 "numbers" "I" (.int (I32 (eRn i))) q.1 A s s.heap ∧ va_OF "java/lang/Enum" "ordinal" "I" (.int (I32 (i : Int))) q.1 A s s.heap ∧ va_OF RX1 "word" "Ljava/lang/String;" (.ref q.2.1) q.1 A s s.heap ∧ StrAt A s i q.2.1 q.2.2
theorem en_at {args : Array Value} {s : State} {A : Nat → Prop} (hs : ∀ c ∈ nvL, c.before args s = true) (hA : ∀ a : Nat, a < s.heap.size → ¬ A a) (i : Nat) (hi : i < 8) : ∃ q, EnA args s A i q := by
  obtain ⟨a, c, cA, kA, q1, q2, q3, q4, q5, q6, -⟩ := Cond.exactly_spec (args := args) (first := s) (o := none) (s := s) (idx := []) (t := tmE i) (cls := RX1) (hs _ (en_0 i hi))
  obtain ⟨w, c', cA', kA', w1, w2, w3, w4, w5, w6, -⟩ := Cond.exactly_spec (args := args) (first := s) (o := none) (s := s) (idx := []) (t := tsE i) (cls := "java/lang/String") (hs _ (en_4 i hi))
  obtain ⟨t, ht, hT⟩ := va_Tof (f := fun j => .int (I32 ((eRw i).getD j 0))) (A := A) (en_9 i hi) (hs _ (en_6 i hi)) (va_eqt (hs _ (en_7 i hi))) (fun j hj => va_eqt (hs _ (en_8 i hi j hj))) hA
  have hw : (Term.field (tmE i) RX1 "word" "Ljava/lang/String;").eval args s none [] s = some (.ref w) := Cond.eq_refs (args := args) (first := s) (t := s) (out := none) (idx := []) (hs _ (en_3 i hi)) w1 rfl
  exact ⟨(a, w, t), q1, va_Oof (hs _ (en_0 i hi)) q1 hA, vk_OFof q1 (va_eqt (hs _ (en_2 i hi))) hA, vk_OFof q1 (va_eqt (hs _ (en_1 i hi))) hA, vk_OFof q1 hw hA, va_Oof (hs _ (en_4 i hi)) w1 hA, vk_OFof w1 (va_eqt (hs _ (en_5 i hi))) hA, vk_OFof w1 ht hA, hT⟩
theorem en_all {args : Array Value} {s : State} {A : Nat → Prop} (hs : ∀ c ∈ nvL, c.before args s = true) (hA : ∀ a : Nat, a < s.heap.size → ¬ A a) : ∃ ad : Nat → Nat × Nat × Nat, ∀ i, i < 8 → EnA args s A i (ad i) := by
  have h0 : ∀ i : Nat, ∃ q : Nat × Nat × Nat, i < 8 → EnA args s A i q := fun i => by
    by_cases hi : i < 8
    · obtain ⟨q, h⟩ := en_at hs hA i hi
      exact ⟨q, fun _ => h⟩
    · exact ⟨(0, 0, 0), fun h => absurd h hi⟩
  exact Classical.axiomOfChoice h0
def adE (ad : Nat → Nat × Nat × Nat) (n : Nat) : Nat := if n < 8 then (ad n).1 else if n < 16 then (ad (n - 8)).2.1 else (ad (n - 16)).2.2
theorem adE_0 (ad : Nat → Nat × Nat × Nat) {k : Nat} (h : k < 8) : adE ad k = (ad k).1 := by unfold adE; rw [if_pos h]
theorem adE_1 (ad : Nat → Nat × Nat × Nat) {k : Nat} (h : k < 8) : adE ad (k + 8) = (ad k).2.1 := by unfold adE; rw [if_neg (by omega), if_pos (by omega), Nat.add_sub_cancel]
theorem adE_2 (ad : Nat → Nat × Nat × Nat) {k : Nat} (h : k < 8) : adE ad (k + 16) = (ad k).2.2 := by unfold adE; rw [if_neg (by omega), if_neg (by omega), Nat.add_sub_cancel]
theorem EX_of {args : Array Value} {s : State} {G : Gx} {ad : Nat → Nat × Nat × Nat} (hs : ∀ c ∈ nvL, c.before args s = true) (ht : ∀ w ∈ lw_tbl, w.before args s = true) (hA : ∀ a : Nat, a < s.heap.size → ¬ gA G a) (hE : ∀ i, i < 8 → EnA args s (gA G) i (ad i)) (hG : G.2.2.1 = adE ad) : EX G s := by
  obtain ⟨t1, h1, T1⟩ := va_Tof (f := fun k => .ref (G.2.2.1 k)) (A := gA G) (by decide) (hs _ ea_0) (va_eqt (hs _ ea_1)) (fun j hj => by
    have e := Cond.eq_refs (args := args) (first := s) (t := s) (out := none) (idx := []) (hs _ (ea_2 j hj)) (hE j hj).1 rfl
    rw [hG, adE_0 ad hj]
    exact e) hA
  obtain ⟨t2, h2, T2⟩ := va_Tof (f := fun k => .int (I32 (((k : Int) + 1) % 8))) (A := gA G) (by decide) (hs _ ew_0) (va_eqt (hs _ ew_1)) (fun j hj => va_eqt (hs _ (ew_2 j hj))) hA
  refine ⟨⟨t1, va_Zref (ht _ et_0) (ht _ et_1) h1 hA, T1⟩, ⟨t2, va_Zref (ht _ et_2) (ht _ et_3) h2 hA, T2⟩, va_Zof (ht _ et_4) (ht _ et_5) (va_eqt (hs _ es_0)) hA, va_Zqof (ht _ et_6) (ht _ et_7) (hs _ es_1) hA, fun k hk => ?_⟩
  obtain ⟨-, e1, e2, e3, e4, e5⟩ := hE k hk
  rw [hG, adE_0 ad hk, adE_1 ad hk, adE_2 ad hk]
  exact ⟨e1, e2, e3, e4, e5⟩
theorem vkR_of {args : Array Value} {s : State} {own tx : String} {k : Nat} (h1 : (Cond.stringRef own k tx).before args s = true) (h2 : (Cond.exactly (.string own k) "java/lang/String").before args s = true) : ∃ a, vk_R own k tx a s := by
  obtain ⟨a, c, cA, kA, q1, -⟩ := Cond.exactly_spec (args := args) (first := s) (o := none) (s := s) (idx := []) (t := .string own k) (cls := "java/lang/String") h2
  exact ⟨a, vk_R.of h1 q1⟩
def exOk : Cond → Bool
  | .castable _ _ => true
  | .declares _ => true
  | _ => false
theorem exB_ok : ∀ w ∈ exB, exOk w = true := by decide +kernel
theorem exOk_on {w : Cond} (h : exOk w = true) : w.onTables = true := by
  cases w <;> first | (cases h; done) | rfl
theorem TX_of {args : Array Value} {s : State} {A : Nat → Prop} (hs : ∀ c ∈ nvL, c.before args s = true) (ht : ∀ w ∈ lw_tbl, w.before args s = true) (hA : ∀ a : Nat, a < s.heap.size → ¬ A a) : TX A s :=
  ⟨vx_Zqof (ht _ et_8) (ht _ et_10) (hs _ es_2) hA, vx_Zqof (ht _ et_9) (ht _ et_10) (hs _ es_3) hA, vkR_of (ht _ et_11) (hs _ es_4), vkR_of (ht _ et_12) (hs _ es_5), vkR_of (ht _ et_13) (hs _ es_6), fun w hw args' => va_Nw.use (exOk_on (exB_ok w hw)) (va_Nw.of (exOk_on (exB_ok w hw)) (ht _ (exB_tbl w hw)))⟩
def Pz (G : Gx) (U : State) : Prop := EX G U ∧ TX (gA G) U ∧ (va_AO RX4 U ∧ va_AO RX7 U) ∧ NX U
theorem EX.tr {G : Gx} {s U : State} (hv : s.vm.Alike U.vm) (hq : ∀ q : Nat, q < s.heap.size → ¬ gA G q → U.heap[q]? = s.heap[q]?) (h : EX G s) : EX G U := by
  obtain ⟨⟨aA, a1, a2⟩, ⟨aS, b1, b2⟩, c1, d1, e1⟩ := h
  refine ⟨⟨aA, (va_Z.moved hv a1).kept hq, (va_T.moved hv a2).kept hq⟩, ⟨aS, (va_Z.moved hv b1).kept hq, (va_T.moved hv b2).kept hq⟩, (va_Z.moved hv c1).kept hq, (va_Zq.moved hv d1).kept hq, fun k hk => ?_⟩
  obtain ⟨f1, f2, f3, f4, g1, g2, g3, g4⟩ := e1 k hk
  exact ⟨(va_O.moved hv f1).kept hq, (va_OF.moved hv f2).kept hq, (va_OF.moved hv f3).kept hq, (va_OF.moved hv f4).kept hq, (va_O.moved hv g1).kept hq, (va_OF.moved hv g2).kept hq, (va_OF.moved hv g3).kept hq, (va_T.moved hv g4).kept hq⟩
theorem TX.tr {A : Nat → Prop} {s U : State} (hW : s.WarmedH U.vm) (hq : ∀ q : Nat, q < s.heap.size → ¬ A q → U.heap[q]? = s.heap[q]?) (h : TX A s) : TX A U := by
  obtain ⟨a1, a2, ⟨a3, h3⟩, ⟨a4, h4⟩, ⟨a5, h5⟩, h6⟩ := h
  refine ⟨(vx_Zq.moved hW.alike a1).kept hq, (vx_Zq.moved hW.alike a2).kept hq, ⟨a3, vk_R.warm hW h3⟩, ⟨a4, vk_R.warm hW h4⟩, ⟨a5, vk_R.warm hW h5⟩, fun w hw args => ?_⟩
  have h1 := exB_ok w hw
  refine va_Nw.use (exOk_on h1) ?_
  have h2 : va_Nw w s := h6 w hw #[]
  cases w <;> first | (cases h1; done) | exact va_Nw.warmC hW h2 | exact va_Nw.warmD hW h2
theorem NX.mv {s U : State} (hv : s.vm.Alike U.vm) (h : NX s) : NX U :=
  ⟨⟨va_Nc.moved hv h.1.1, va_Nc.moved hv h.1.2⟩, ⟨va_Nc.moved hv h.2.1.1, va_Nc.moved hv h.2.1.2⟩, va_Nc.moved hv h.2.2.1, va_Nc.moved hv h.2.2.2⟩
theorem Pz.tr {G : Gx} {s U : State} (hW : s.WarmedH U.vm) (hq : ∀ q : Nat, q < s.heap.size → ¬ gA G q → U.heap[q]? = s.heap[q]?) (h : Pz G s) : Pz G U :=
  ⟨h.1.tr hW.alike hq, h.2.1.tr hW hq, ⟨va_AO.moved hW.alike h.2.2.1.1, va_AO.moved hW.alike h.2.2.1.2⟩, h.2.2.2.mv hW.alike⟩
theorem Pz.cl {G : Gx} {U : State} (g : JFrame) (mk : MethodId) (a : Array Value) (h : Pz G U) : Pz G (U.calling g mk a) := by
  have hv : U.vm.Alike (U.calling g mk a).vm := Vm.Alike.refl U.vm
  have hq : ∀ q : Nat, q < U.heap.size → ¬ gA G q → (U.calling g mk a).heap[q]? = U.heap[q]? := fun _ _ _ => rfl
  obtain ⟨h1, ⟨a1, a2, ⟨a3, h3⟩, ⟨a4, h4⟩, ⟨a5, h5⟩, h6⟩, h7, h8⟩ := h
  refine ⟨h1.tr hv hq, ⟨(vx_Zq.moved hv a1).kept hq, (vx_Zq.moved hv a2).kept hq, ⟨a3, vk_R.same rfl h3⟩, ⟨a4, vk_R.same rfl h4⟩, ⟨a5, vk_R.same rfl h5⟩, fun w hw args => ?_⟩, ⟨va_AO.moved hv h7.1, va_AO.moved hv h7.2⟩, h8.mv hv⟩
  have h9 := exOk_on (exB_ok w hw)
  exact va_Nw.use h9 (va_Nw.same (u := U) (U := U.calling g mk a) h9 rfl (h6 w hw #[]))
def G0 (D : va_G) (cc : ClassId × ClassId × ClassId × ClassId) (ad : Nat → Nat) (z : Nat) : Gx := (D, cc, ad, z, fun U => Pz (D, cc, ad, z, fun _ => True) U)
theorem Pz_0 {D : va_G} {cc : ClassId × ClassId × ClassId × ClassId} {ad : Nat → Nat} {z : Nat} {P : State → Prop} {U : State} (h : Pz (D, cc, ad, z, fun _ => True) U) : Pz (D, cc, ad, z, P) U := h
theorem G0_P (D : va_G) (cc : ClassId × ClassId × ClassId × ClassId) (ad : Nat → Nat) (z : Nat) {U : State} (h : (G0 D cc ad z).2.2.2.2 U) : Pz (G0 D cc ad z) U := Pz_0 h
theorem G0_GP (D : va_G) (cc : ClassId × ClassId × ClassId × ClassId) (ad : Nat → Nat) (z : Nat) : GP (G0 D cc ad z) :=
  ⟨fun _ _ hW _ hq h => Pz.tr (G := (D, cc, ad, z, fun _ => True)) hW hq h, fun _ g mk a h => Pz.cl (G := (D, cc, ad, z, fun _ => True)) g mk a h⟩
theorem G0_GE (D : va_G) (cc : ClassId × ClassId × ClassId × ClassId) (ad : Nat → Nat) (z : Nat) : GE (G0 D cc ad z) := fun _ h => (G0_P D cc ad z h).1
theorem G0_GX (D : va_G) (cc : ClassId × ClassId × ClassId × ClassId) (ad : Nat → Nat) (z : Nat) : GX (G0 D cc ad z) := fun _ h => (G0_P D cc ad z h).2.1
theorem G0_GN (D : va_G) (cc : ClassId × ClassId × ClassId × ClassId) (ad : Nat → Nat) (z : Nat) : GN (G0 D cc ad z) := fun _ h => (G0_P D cc ad z h).2.2.2
theorem G0_GAO (D : va_G) (cc : ClassId × ClassId × ClassId × ClassId) (ad : Nat → Nat) (z : Nat) : GAO (G0 D cc ad z) := fun _ h => (G0_P D cc ad z h.2.2).2.2.1
/-- a class's place among the tables -/
theorem kn_at {args : Array Value} {s : State} (ht : ∀ w ∈ lw_tbl, w.before args s = true) : ∀ (c : Nat), ∃ z : ClassId × (Nat → Nat), ∀ q : vw_C, vwCl[c]? = some q → u_Kn s q.1 q.2.1 q.2.2 z.1 z.2 := by
  have key : ∀ {C : String} {T : u_T} {N : Nat}, (∀ w ∈ u_ws C T N, w ∈ wsL_law0) → Cond.instantiable C N ∈ lw_tbl → ∃ z : ClassId × (Nat → Nat), u_Kn s C T N z.1 z.2 := fun h1 h2 => by
    obtain ⟨c, i, h⟩ := u_known (ws := lw_tbl) ht (fun w hw => lw0_in (h1 w hw)) (ht _ h2)
    exact ⟨(c, i), h⟩
  intro c
  match c with
  | 0 => obtain ⟨z, h⟩ := key ow_2 ei_2; exact ⟨z, fun q e => by cases e; exact h⟩
  | 1 => obtain ⟨z, h⟩ := key ow_3 ei_3; exact ⟨z, fun q e => by cases e; exact h⟩
  | 2 => obtain ⟨z, h⟩ := key ow_4 ei_4; exact ⟨z, fun q e => by cases e; exact h⟩
  | 3 => obtain ⟨z, h⟩ := key ow_5 ei_5; exact ⟨z, fun q e => by cases e; exact h⟩
  | 4 => obtain ⟨z, h⟩ := key ow_6 ei_6; exact ⟨z, fun q e => by cases e; exact h⟩
  | 5 => obtain ⟨z, h⟩ := key ow_7 ei_7; exact ⟨z, fun q e => by cases e; exact h⟩
  | 6 => obtain ⟨z, h⟩ := key ow_8 ei_8; exact ⟨z, fun q e => by cases e; exact h⟩
  | 7 => obtain ⟨z, h⟩ := key ow_9 ei_9; exact ⟨z, fun q e => by cases e; exact h⟩
  | (n + 8) => exact ⟨(0, fun _ => 0), fun q e => absurd (List.getElem?_eq_some_iff.mp e).1 (show ¬ (n + 8 < 8) by omega)⟩
theorem ar_i {args : Array Value} {s : State} {ty : FieldType} (hp : ∀ C, ty ≠ .object C) (hq : ∀ t, ty ≠ .array t) (h : (Cond.arrayClass ty).before args s = true) : ∃ cA : ClassId, ArrOfT s cA ty ∧ va_RA s cA ty := by
  obtain ⟨c, k, comp, f1, f2, f3⟩ := Cond.arrayClass_spec (args := args) (first := s) (o := none) (s := s) (idx := []) h
  refine ⟨c, fun N z => ⟨(fun k h => by cases h), k, f2, comp, f3⟩, ?_⟩
  cases ty with
  | object C => exact absurd rfl (hp C)
  | array t => exact f1
  | _ => exact f1
theorem ar_o {args : Array Value} {s : State} {C : String} (h : (Cond.arrayOver (.object C)).before args s = true) : ∃ cA : ClassId, ArrOfT s cA (.object C) ∧ va_RA s cA (.object C) := by
  obtain ⟨comp, c, k, g1, g2, g3, g4, g5⟩ := Cond.arrayOver_spec (args := args) (first := s) (s := s) (o := none) (idx := []) h
  exact ⟨c, fun N z => ⟨(fun k h => by cases h), k, g3, comp, g4⟩, k, comp, g3, g4, g1, g5⟩
/-- the memory's tables at the start -/
theorem PE_start {args : Array Value} {s : State} (hs : ∀ c ∈ nvL, c.before args s = true) (ht : ∀ w ∈ lw_tbl, w.before args s = true) : ∃ (D : va_G) (cc : ClassId × ClassId × ClassId × ClassId) (ad : Nat → Nat), PE (G0 D cc ad s.heap.size) s := by
  obtain ⟨z, hz⟩ := Classical.axiomOfChoice (kn_at ht)
  obtain ⟨cI, i1, i2⟩ := ar_i (ty := .int) (fun _ h => by cases h) (fun _ h => by cases h) (ht _ et_16)
  obtain ⟨cL, l1, l2⟩ := ar_i (ty := .long) (fun _ h => by cases h) (fun _ h => by cases h) (ht _ et_17)
  obtain ⟨cY, y1, y2⟩ := ar_o (ht _ et_14)
  obtain ⟨cT, t1, t2⟩ := ar_o (ht _ et_15)
  have hA : ∀ (D : va_G) (cc : ClassId × ClassId × ClassId × ClassId) (ad : Nat → Nat) (P : State → Prop), ∀ a : Nat, a < s.heap.size → ¬ gA (D, cc, ad, s.heap.size, P) a := fun D cc ad P a h q => Nat.lt_irrefl _ (Nat.lt_of_lt_of_le h q)
  obtain ⟨ad, had⟩ := en_all (A := fun q => s.heap.size ≤ q) hs (fun a h q => Nat.lt_irrefl _ (Nat.lt_of_lt_of_le h q))
  refine ⟨(fun c => (z c).1, fun c => (z c).2), (cI, cL, cY, cT), adE ad, ⟨fun c q hq => hz c q hq, fun k q hk => ?_⟩, fun w hw => va_Nw.of ?_ (ht _ (nW_tbl w hw)), ?_⟩
  · match k, hk with
    | 0, hk => cases hk; exact ⟨i1, i2⟩
    | 1, hk => cases hk; exact ⟨l1, l2⟩
    | 2, hk => cases hk; exact ⟨y1, y2⟩
    | 3, hk => cases hk; exact ⟨t1, t2⟩
    | (n + 4), hk => exact absurd (List.getElem?_eq_some_iff.mp hk).1 (show ¬ (n + 4 < 4) by omega)
  · have h2 := nW_ok w hw
    cases w <;> first | (cases h2; done) | rfl
  · refine ⟨EX_of hs ht (hA _ _ _ _) (fun i hi => had i hi) rfl, TX_of hs ht (hA _ _ _ _), ⟨va_AO.of (ht _ et_14), va_AO.of (ht _ et_15)⟩, ⟨va_Nc.of (hs _ ex_12), va_Nc.of (hs _ ex_13)⟩, ⟨va_Nc.of (hs _ ex_21), va_Nc.of (hs _ ex_23)⟩, va_Nc.of (hs _ ex_31), va_Nc.of (hs _ ex_32)⟩
