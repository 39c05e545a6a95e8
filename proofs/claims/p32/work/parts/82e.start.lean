/-! WHAT THE START GIVES (p32): the tables of the machine's memory, out of the Statement's premises -/
def nvL : List Cond := flatC (Jvm.Cond.and given_1 narrow_1)
theorem es_2 : Cond.isRef (.static Bundle.tN "UNASSIGNED_STACK" Bundle.steD) ∈ nvL := by decide +kernel
theorem es_3 : Cond.isRef (.static Bundle.tN "SUPPRESSED_SENTINEL" Bundle.listD) ∈ nvL := by decide +kernel
theorem es_4 : Cond.exactly (.string RX8 358) "java/lang/String" ∈ nvL := by decide +kernel
theorem es_5 : Cond.exactly (.string RX8 365) "java/lang/String" ∈ nvL := by decide +kernel
theorem es_6 : Cond.exactly (.string RX8 370) "java/lang/String" ∈ nvL := by decide +kernel
theorem ex_12 : Cond.not (.castable xE1 xE2) ∈ nvL := by decide +kernel
theorem ex_13 : Cond.not (.castable xE1 xE3) ∈ nvL := by decide +kernel
theorem ex_21 : Cond.not (.castable xE2 xE1) ∈ nvL := by decide +kernel
theorem ex_23 : Cond.not (.castable xE2 xE3) ∈ nvL := by decide +kernel
theorem ex_31 : Cond.not (.castable xE3 xE1) ∈ nvL := by decide +kernel
theorem ex_32 : Cond.not (.castable xE3 xE2) ∈ nvL := by decide +kernel
theorem et_8 : Cond.laysStatic Bundle.tN "UNASSIGNED_STACK" Bundle.steD ∈ lw_tbl := by decide +kernel
theorem et_9 : Cond.laysStatic Bundle.tN "SUPPRESSED_SENTINEL" Bundle.listD ∈ lw_tbl := by decide +kernel
theorem et_10 : Cond.initialized Bundle.tN ∈ lw_tbl := by decide +kernel
theorem et_11 : Cond.stringRef RX8 358 "there is no such pane or cell" ∈ lw_tbl := by decide +kernel
theorem et_12 : Cond.stringRef RX8 365 "an argument is out of range" ∈ lw_tbl := by decide +kernel
theorem et_13 : Cond.stringRef RX8 370 "what there is does not allow this" ∈ lw_tbl := by decide +kernel
theorem et_14 : Cond.arrayOver (.object RX4) ∈ lw_tbl := by decide +kernel
theorem et_15 : Cond.arrayOver (.object RX7) ∈ lw_tbl := by decide +kernel
theorem et_16 : Cond.arrayClass .int ∈ lw_tbl := by decide +kernel
theorem ei_2 : Cond.instantiable RX2 6 ∈ lw_tbl := by decide +kernel
theorem ei_3 : Cond.instantiable RX3 3 ∈ lw_tbl := by decide +kernel
theorem ei_4 : Cond.instantiable RX4 8 ∈ lw_tbl := by decide +kernel
theorem ei_5 : Cond.instantiable RX5 13 ∈ lw_tbl := by decide +kernel
theorem ei_6 : Cond.instantiable RX6 6 ∈ lw_tbl := by decide +kernel
theorem ei_7 : Cond.instantiable RX7 7 ∈ lw_tbl := by decide +kernel
theorem ei_8 : Cond.instantiable RX8 6 ∈ lw_tbl := by decide +kernel
theorem lw0_in {w : Cond} (h : w ∈ wsL_law0) : w ∈ lw_tbl := wsL_law_in w (List.mem_append_left _ (List.mem_append_left _ (List.mem_append_left _ h)))
theorem ow_8 : ∀ w ∈ wsX80, w ∈ wsL_law0 := fun w h => by
  unfold wsL_law0
  simp only [List.mem_append, h, true_or, or_true]
theorem ow_7 : ∀ w ∈ wsX70, w ∈ wsL_law0 := fun w h => by
  unfold wsL_law0
  simp only [List.mem_append, h, true_or, or_true]
theorem ow_3 : ∀ w ∈ wsX30, w ∈ wsL_law0 := fun w h => by
  unfold wsL_law0
  simp only [List.mem_append, h, true_or, or_true]
theorem ow_2 : ∀ w ∈ wsX20, w ∈ wsL_law0 := fun w h => by
  unfold wsL_law0
  simp only [List.mem_append, h, true_or, or_true]
theorem ow_5 : ∀ w ∈ wsX50, w ∈ wsL_law0 := fun w h => by
  unfold wsL_law0
  simp only [List.mem_append, h, true_or, or_true]
theorem ow_4 : ∀ w ∈ wsX40, w ∈ wsL_law0 := fun w h => by
  unfold wsL_law0
  simp only [List.mem_append, h, true_or, or_true]
theorem ow_6 : ∀ w ∈ wsX60, w ∈ wsL_law0 := fun w h => by
  unfold wsL_law0
  simp only [List.mem_append, h, true_or, or_true]
theorem vkR_of {args : Array Value} {s : State} {own tx : String} {k : Nat} (h1 : (Cond.stringRef own k tx).before args s = true) (h2 : (Cond.exactly (.string own k) "java/lang/String").before args s = true) : ∃ a, vk_R own k tx a s := by
  obtain ⟨a, c, cA, kA, q1, -⟩ := Cond.exactly_spec (args := args) (first := s) (o := none) (s := s) (idx := []) (t := .string own k) (cls := "java/lang/String") h2
  exact ⟨a, vk_R.of h1 q1⟩
def exOk : Cond → Bool
  | .castable _ _ => true
  | .declares _ => true
  | _ => false
theorem exB_ok : ∀ w ∈ exB, exOk w = true := by decide +kernel
theorem exOk_on {w : Cond} (h : exOk w = true) : w.onTables = true := by
  cases w <;> first | (cases h; done) | rfl
theorem TX_of {args : Array Value} {s : State} {A : Nat → Prop} (hs : ∀ c ∈ nvL, c.before args s = true) (ht : ∀ w ∈ lw_tbl, w.before args s = true) (hA : ∀ a : Nat, a < s.heap.size → ¬ A a) : TX A s :=
  ⟨vx_Zqof (ht _ et_8) (ht _ et_10) (hs _ es_2) hA, vx_Zqof (ht _ et_9) (ht _ et_10) (hs _ es_3) hA, vkR_of (ht _ et_11) (hs _ es_4), vkR_of (ht _ et_12) (hs _ es_5), vkR_of (ht _ et_13) (hs _ es_6), fun w hw args' => va_Nw.use (exOk_on (exB_ok w hw)) (va_Nw.of (exOk_on (exB_ok w hw)) (ht _ (exB_tbl w hw)))⟩
def Pz (b N : Nat) (xs : Nat → Int32) (G : Gx) (U : State) : Prop := TX (gA G) U ∧ (va_AO RX4 U ∧ va_AO RX7 U) ∧ NX U ∧ va_X b N xs U U.heap ∧ b < U.heap.size ∧ b < gZ G
theorem TX.tr {A : Nat → Prop} {s U : State} (hW : s.WarmedH U.vm) (hq : ∀ q : Nat, q < s.heap.size → ¬ A q → U.heap[q]? = s.heap[q]?) (h : TX A s) : TX A U := by
  obtain ⟨a1, a2, ⟨a3, h3⟩, ⟨a4, h4⟩, ⟨a5, h5⟩, h6⟩ := h
  refine ⟨(vx_Zq.moved hW.alike a1).kept hq, (vx_Zq.moved hW.alike a2).kept hq, ⟨a3, vk_R.warm hW h3⟩, ⟨a4, vk_R.warm hW h4⟩, ⟨a5, vk_R.warm hW h5⟩, fun w hw args => ?_⟩
  have h1 := exB_ok w hw
  refine va_Nw.use (exOk_on h1) ?_
  have h2 : va_Nw w s := h6 w hw #[]
  cases w <;> first | (cases h1; done) | exact va_Nw.warmC hW h2 | exact va_Nw.warmD hW h2
theorem NX.mv {s U : State} (hv : s.vm.Alike U.vm) (h : NX s) : NX U :=
  ⟨⟨va_Nc.moved hv h.1.1, va_Nc.moved hv h.1.2⟩, ⟨va_Nc.moved hv h.2.1.1, va_Nc.moved hv h.2.1.2⟩, va_Nc.moved hv h.2.2.1, va_Nc.moved hv h.2.2.2⟩
theorem Pz.tr {b N : Nat} {xs : Nat → Int32} {G : Gx} {s U : State} (hW : s.WarmedH U.vm) (hz : s.heap.size ≤ U.heap.size) (hq : ∀ q : Nat, q < s.heap.size → ¬ gA G q → U.heap[q]? = s.heap[q]?) (h : Pz b N xs G s) : Pz b N xs G U :=
  ⟨h.1.tr hW hq, ⟨va_AO.moved hW.alike h.2.1.1, va_AO.moved hW.alike h.2.1.2⟩, h.2.2.1.mv hW.alike, (va_X.moved hW.alike h.2.2.2.1).kept (hq b h.2.2.2.2.1 (fun q => Nat.lt_irrefl _ (Nat.lt_of_lt_of_le h.2.2.2.2.2 q))), Nat.lt_of_lt_of_le h.2.2.2.2.1 hz, h.2.2.2.2.2⟩
theorem Pz.cl {b N : Nat} {xs : Nat → Int32} {G : Gx} {U : State} (g : JFrame) (mk : MethodId) (a : Array Value) (h : Pz b N xs G U) : Pz b N xs G (U.calling g mk a) := by
  have hv : U.vm.Alike (U.calling g mk a).vm := Vm.Alike.refl U.vm
  have hq : ∀ q : Nat, q < U.heap.size → ¬ gA G q → (U.calling g mk a).heap[q]? = U.heap[q]? := fun _ _ _ => rfl
  obtain ⟨⟨a1, a2, ⟨a3, h3⟩, ⟨a4, h4⟩, ⟨a5, h5⟩, h6⟩, h7, h8, h9, h10⟩ := h
  refine ⟨⟨(vx_Zq.moved hv a1).kept hq, (vx_Zq.moved hv a2).kept hq, ⟨a3, vk_R.same rfl h3⟩, ⟨a4, vk_R.same rfl h4⟩, ⟨a5, vk_R.same rfl h5⟩, fun w hw args => ?_⟩, ⟨va_AO.moved hv h7.1, va_AO.moved hv h7.2⟩, h8.mv hv, (va_X.moved hv h9).kept rfl, h10⟩
  have h9 := exOk_on (exB_ok w hw)
  exact va_Nw.use h9 (va_Nw.same (u := U) (U := U.calling g mk a) h9 rfl (h6 w hw #[]))
def G0 (b N : Nat) (xs : Nat → Int32) (D : va_G) (cc : ClassId × ClassId × ClassId × ClassId) (ad : Nat → Nat) (z : Nat) : Gx := (D, cc, ad, z, fun U => Pz b N xs (D, cc, ad, z, fun _ => True) U)
theorem Pz_0 {b N : Nat} {xs : Nat → Int32} {D : va_G} {cc : ClassId × ClassId × ClassId × ClassId} {ad : Nat → Nat} {z : Nat} {P : State → Prop} {U : State} (h : Pz b N xs (D, cc, ad, z, fun _ => True) U) : Pz b N xs (D, cc, ad, z, P) U := h
theorem G0_P (b N : Nat) (xs : Nat → Int32) (D : va_G) (cc : ClassId × ClassId × ClassId × ClassId) (ad : Nat → Nat) (z : Nat) {U : State} (h : (G0 b N xs D cc ad z).2.2.2.2 U) : Pz b N xs (G0 b N xs D cc ad z) U := Pz_0 h
theorem G0_GP (b N : Nat) (xs : Nat → Int32) (D : va_G) (cc : ClassId × ClassId × ClassId × ClassId) (ad : Nat → Nat) (z : Nat) : GP (G0 b N xs D cc ad z) :=
  ⟨fun _ _ hW hz hq h => Pz.tr (G := (D, cc, ad, z, fun _ => True)) hW hz hq h, fun _ g mk a h => Pz.cl (G := (D, cc, ad, z, fun _ => True)) g mk a h⟩
theorem G0_GX (b N : Nat) (xs : Nat → Int32) (D : va_G) (cc : ClassId × ClassId × ClassId × ClassId) (ad : Nat → Nat) (z : Nat) : GX (G0 b N xs D cc ad z) := fun _ h => (G0_P b N xs D cc ad z h).1
theorem G0_GN (b N : Nat) (xs : Nat → Int32) (D : va_G) (cc : ClassId × ClassId × ClassId × ClassId) (ad : Nat → Nat) (z : Nat) : GN (G0 b N xs D cc ad z) := fun _ h => (G0_P b N xs D cc ad z h).2.2.1
theorem G0_GAO (b N : Nat) (xs : Nat → Int32) (D : va_G) (cc : ClassId × ClassId × ClassId × ClassId) (ad : Nat → Nat) (z : Nat) : GAO (G0 b N xs D cc ad z) := fun _ h => (G0_P b N xs D cc ad z h.2.2).2.1
theorem G0_GS (b N : Nat) (xs : Nat → Int32) (D : va_G) (cc : ClassId × ClassId × ClassId × ClassId) (ad : Nat → Nat) (z : Nat) : GS (G0 b N xs D cc ad z) b N xs := fun _ h => (G0_P b N xs D cc ad z h).2.2.2
/-- a class's place among the tables -/
theorem kn_at {args : Array Value} {s : State} (ht : ∀ w ∈ lw_tbl, w.before args s = true) : ∀ (c : Nat), ∃ z : ClassId × (Nat → Nat), ∀ q : vw_C, vwCl[c]? = some q → u_Kn s q.1 q.2.1 q.2.2 z.1 z.2 := by
  have key : ∀ {C : String} {T : u_T} {N : Nat}, (∀ w ∈ u_ws C T N, w ∈ wsL_law0) → Cond.instantiable C N ∈ lw_tbl → ∃ z : ClassId × (Nat → Nat), u_Kn s C T N z.1 z.2 := fun h1 h2 => by
    obtain ⟨c, i, h⟩ := u_known (ws := lw_tbl) ht (fun w hw => lw0_in (h1 w hw)) (ht _ h2)
    exact ⟨(c, i), h⟩
  intro c
  match c with
  | 0 => obtain ⟨z, h⟩ := key ow_2 ei_2; exact ⟨z, fun q e => by cases e; exact h⟩
  | 1 => obtain ⟨z, h⟩ := key ow_3 ei_3; exact ⟨z, fun q e => by cases e; exact h⟩
  | 2 => obtain ⟨z, h⟩ := key ow_4 ei_4; exact ⟨z, fun q e => by cases e; exact h⟩
  | 3 => obtain ⟨z, h⟩ := key ow_5 ei_5; exact ⟨z, fun q e => by cases e; exact h⟩
  | 4 => obtain ⟨z, h⟩ := key ow_6 ei_6; exact ⟨z, fun q e => by cases e; exact h⟩
  | 5 => obtain ⟨z, h⟩ := key ow_7 ei_7; exact ⟨z, fun q e => by cases e; exact h⟩
  | 6 => obtain ⟨z, h⟩ := key ow_8 ei_8; exact ⟨z, fun q e => by cases e; exact h⟩
  | (n + 7) => exact ⟨(0, fun _ => 0), fun q e => absurd (List.getElem?_eq_some_iff.mp e).1 (show ¬ (n + 7 < 7) by omega)⟩
theorem ar_i {args : Array Value} {s : State} {ty : FieldType} (hp : ∀ C, ty ≠ .object C) (hq : ∀ t, ty ≠ .array t) (h : (Cond.arrayClass ty).before args s = true) : ∃ cA : ClassId, ArrOfT s cA ty ∧ va_RA s cA ty := by
  obtain ⟨c, k, comp, f1, f2, f3⟩ := Cond.arrayClass_spec (args := args) (first := s) (o := none) (s := s) (idx := []) h
  refine ⟨c, fun N z => ⟨(fun k h => by cases h), k, f2, comp, f3⟩, ?_⟩
  cases ty with
  | object C => exact absurd rfl (hp C)
  | array t => exact f1
  | _ => exact f1
theorem ar_o {args : Array Value} {s : State} {C : String} (h : (Cond.arrayOver (.object C)).before args s = true) : ∃ cA : ClassId, ArrOfT s cA (.object C) ∧ va_RA s cA (.object C) := by
  obtain ⟨comp, c, k, g1, g2, g3, g4, g5⟩ := Cond.arrayOver_spec (args := args) (first := s) (s := s) (o := none) (idx := []) h
  exact ⟨c, fun N z => ⟨(fun k h => by cases h), k, g3, comp, g4⟩, k, comp, g3, g4, g1, g5⟩
/-- the memory's tables at the start -/
theorem PE_start {args : Array Value} {s : State} (hs : ∀ c ∈ nvL, c.before args s = true) (ht : ∀ w ∈ lw_tbl, w.before args s = true) {b N : Nat} {xs : Nat → Int32} (hX : va_X b N xs s s.heap) (hb : b < s.heap.size) : ∃ (D : va_G) (cc : ClassId × ClassId × ClassId × ClassId) (ad : Nat → Nat), PE (G0 b N xs D cc ad s.heap.size) s := by
  obtain ⟨z, hz⟩ := Classical.axiomOfChoice (kn_at ht)
  obtain ⟨cI, i1, i2⟩ := ar_i (ty := .int) (fun _ h => by cases h) (fun _ h => by cases h) (ht _ et_16)
  obtain ⟨cY, y1, y2⟩ := ar_o (ht _ et_14)
  obtain ⟨cT, t1, t2⟩ := ar_o (ht _ et_15)
  have hA : ∀ (D : va_G) (cc : ClassId × ClassId × ClassId × ClassId) (ad : Nat → Nat) (P : State → Prop), ∀ a : Nat, a < s.heap.size → ¬ gA (D, cc, ad, s.heap.size, P) a := fun D cc ad P a h q => Nat.lt_irrefl _ (Nat.lt_of_lt_of_le h q)
  refine ⟨(fun c => (z c).1, fun c => (z c).2), (cI, cI, cY, cT), fun _ => 0, ⟨fun c q hq => hz c q hq, fun k q hk => ?_⟩, fun w hw => va_Nw.of ?_ (ht _ (nW_tbl w hw)), ?_⟩
  · match k, hk with
    | 0, hk => cases hk; exact ⟨i1, i2⟩
    | 1, hk => cases hk; exact ⟨i1, i2⟩
    | 2, hk => cases hk; exact ⟨y1, y2⟩
    | 3, hk => cases hk; exact ⟨t1, t2⟩
    | (n + 4), hk => exact absurd (List.getElem?_eq_some_iff.mp hk).1 (show ¬ (n + 4 < 4) by omega)
  · have h2 := nW_ok w hw
    cases w <;> first | (cases h2; done) | rfl
  · refine ⟨TX_of hs ht (hA _ _ _ _), ⟨va_AO.of (ht _ et_14), va_AO.of (ht _ et_15)⟩, ⟨⟨va_Nc.of (hs _ ex_12), va_Nc.of (hs _ ex_13)⟩, ⟨va_Nc.of (hs _ ex_21), va_Nc.of (hs _ ex_23)⟩, va_Nc.of (hs _ ex_31), va_Nc.of (hs _ ex_32)⟩, hX, hb, hb⟩
