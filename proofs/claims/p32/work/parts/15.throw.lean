/-! THROWS: a contract of a method that throws E0 and leaves the cells as they were; a write through the nest -/
def XcE (G : Gx) (S : Sh) (mu : Mem) (la : Lam) (E0 : String) : String → State → State → Prop := fun E st t => E = E0 ∧ (∃ n, Hr G S n mu la t.heap) ∧ va_F (gA G) st t
def CtX (G : Gx) (l : Launch) (y : MethodName) (ws : List Cond) (fr : Nat) (av : List Value) (S : Sh) (n : Nat) (mu : Mem) (la : Lam) (E0 : String) : Prop :=
  vx_Met l y ws (rmOf fr 1 6) (Pm G av S n mu la) (fun _ _ _ _ => False) (XcE G S mu la E0) 1 6 (gA G)
def EnX (X : Cx) (S : Sh) (mu : Mem) (la : Lam) (E0 : String) : Prop := xQ X = vx_MQ (xB X) (fun _ _ _ _ => False) (XcE (xG X) S mu la E0) (xA X) (xS X) 1 6 (gA (xG X))
theorem CtX.ofV {G : Gx} {l : Launch} {y : MethodName} {ws ws' : List Cond} {fr nL : Nat} {av : List Value} {S : Sh} {n : Nat} {mu : Mem} {la : Lam} {E0 : String} {cc : ByteArray} {ret : Option FieldType} (r : Rg)
    (hG : GP G) (hy : plainName y.cls = true) (hw : ws = Cond.code y cc nL ret :: ws') (hle : (lg_sl av).length ≤ nL) (hr : rOf 0 r = lv_args 0 av)
    (body : ∀ X : Cx, xG X = G → xL X = l → Ok X cc ws y.cls ret fr nL → (xR X).cells = 1 → (xR X).slots = 6 → (∀ x ∈ (xC X).exceptionTable.toList, False) → EnX X S mu la E0 → V X 0 r [] S n mu la 0 0) : CtX G l y ws fr av S n mu la E0 := by
  refine vx_ofW (cc := cc) (maxL := nL) (ret := ret) hy hw ?_
  intro p e s m args below meth c s₁ B hml hnt hv
  obtain ⟨rfl, hpe, hH⟩ := hv
  have hts := atoms_spec (ws := ws) B.pre
  have hown : s.vm.findClass y.cls = some m.cls := findClass_of_methodNamed B.named
  have hl := lv_entry av (n := nL) hle
  rw [lg_entry_eq]
  generalize (lg_sl av ++ List.replicate (nL - (lg_sl av).length) Slot.unset).toArray = ls at hl ⊢
  rw [← hr] at hl
  exact body (p, l, e, (headSpec ws (rmOf fr 1 6)).room, s, m, av.toArray, below, meth, c, vx_MQ below (fun _ _ _ _ => False) (XcE G S mu la E0) av.toArray s 1 6 (gA G), nL, G) rfl rfl
    ⟨B.exec, B.bytes, hml, rfl, hown, hts, B.returns, B.notSynchronized, hpe, Nat.le_trans hH.2.2.2 (Nat.le_of_eq hH.2.2.1.symm), hG, rfl, rfl⟩ rfl rfl hnt rfl s.heap [] ls hH va_S.rf hl
section VT
variable {X : Cx} {cc : ByteArray} {Ts : List Cond} {own : String} {ret : Option FieldType} {fr nL : Nat} {pc : Nat} {r : Rg} {st : List Value} {S : Sh} {n : Nat} {mu : Mem} {la : Lam} {k sl : Nat}
theorem Hr.grown {G : Gx} {H H1 : Heap} (h : Hr G S n mu la H) (hz : H.size ≤ H1.size) (hq : ∀ q : Nat, q < H.size → H1[q]? = H[q]?) : Hr G S H1.size mu la H1 := by
  obtain ⟨hP, hD, hn, hg⟩ := h
  refine ⟨fun j q hj => ?_, hD, rfl, by omega⟩
  have h1 := hP j q hj
  have h3 : ∃ cell, H[q.1]? = some cell := by
    obtain ⟨a, e⟩ := q
    rcases e with e | ⟨ci, fs⟩
    · exact ⟨_, h1⟩
    · obtain ⟨_, _, cell, h4, _⟩ := h1
      exact ⟨cell, h4⟩
  obtain ⟨cell, h4⟩ := h3
  have h2 : H1[q.1]? = H[q.1]? := hq _ (Array.getElem?_eq_some_iff.mp h4).1
  obtain ⟨a, e⟩ := q
  rcases e with e | ⟨ci, fs⟩
  · exact h2.trans h1
  · obtain ⟨r9, g1, cell, g2, g3⟩ := h1
    exact ⟨r9, g1, cell, h2.trans g2, g3⟩
/-- a static call of a method that throws -/
theorem V_callSX (C : Ok X cc Ts own ret fr nL) {E0 : String} (hc : (xR X).cells = 1) (hs : (xR X).slots = 6) (hnt : ∀ x ∈ (xC X).exceptionTable.toList, False) (E : EnX X S mu la E0) {index nA maxL fc : Nat} {y : MethodName} {ws ws' : List Cond} {bytes : ByteArray} {rt : Option FieldType} {As rest : List Value}
    (hd : decode cc pc = .ok (.invokestatic index, 3)) (hM : CtX (xG X) (xL X) y ws fc As S n mu la E0) (hG : GoodIn Ts (va_wsS own index y ws)) (hw : ws = Cond.code y bytes maxL rt :: ws')
    (hy : y.cls ≠ "java/lang/invoke/MethodHandle" ∧ y.cls ≠ "java/lang/invoke/VarHandle" ∧ (parseMethodDescriptor y.desc).map (fun d => d.parameters.length) = some nA)
    (hn : As.length = nA) (hfr : fc + 1 ≤ fr) (hml : maxL ≤ 11) (hcat : (rest.map fun v => v.category).sum ≤ 8) {st0 : List Value} (hst : st0 = psh As rest) : V X pc r st0 S n mu la 0 0 := by
  intro H locs ls hH hS hl
  have hr := vx_runS (free := gA (xG X)) (H := H) (locs := locs) (cells := 0) (slots := 0) (g := F0 (xM X) pc ls st0) (e := xE X) (below := xB X) (meth := xT X) ⟨C.1, C.2.1, C.2.2.1, C.own, C.ts⟩ hM (va_cwS nA C.ts hG hw rfl rfl hy ⟨by rw [C.frames]; exact hfr, by rw [C.regs]; show 8 + (maxL + 11) + 30 * fc ≤ _; omega⟩)
    ⟨Pm_blind C.gp, V_pre C hH hS As⟩ rfl hn hl.1 (by rw [hst, psh_eq]) (cat_le hcat) hd ⟨by omega, by omega⟩
  rw [E]
  intro T hT XX
  rcases hr T hT XX with ⟨v, st₀, t, T', L, h0, X', hL, e1, e2, hq, -⟩ | ⟨q, st₀, t, T', L, Ex, ce, h0, X', hL, e1, e2, hx, hce, hcv, hcl, stp⟩
  · exact hq.elim
  · obtain ⟨rfl, ⟨n', hH'⟩, hz, hq⟩ := hx
    rw [h0] at hz hq
    rw [← e1] at hH' hce hz hq
    have hS' : va_S (gA (xG X)) (xS X).heap T'.heap (locs ++ L) := ⟨Nat.le_trans hS.1 hz, fun q9 h1 h2 => by rw [hq q9 (Nat.lt_of_lt_of_le h1 hS.1) h2]; exact hS.2.1 q9 h1 h2, fun q9 hq9 => by
      rcases List.mem_append.mp hq9 with h | h
      · exact hS.2.2 q9 h
      · exact hL q9 h⟩
    have ho := vx_out (p := xP X) (l := xL X) (e := xE X) (R := xR X) (m := xM X) (args := xA X) (below := xB X) (cells := 0 + 1) (slots := 0 + 6) (Qc := fun _ _ _ _ => False) (XC := XcE (xG X) S mu la Ex) (pc := pc) (rest := rest) (ls := ls) (mc := 1) (ms := 6) (fun x hx => (hnt x hx).elim) C.locks hce hcv hcl
      (fun t9 ht9 _ => ⟨rfl, ⟨n', by rw [ht9]; exact hH'⟩, hS'.F ht9⟩) (fun z hz => hS'.2.2 z hz) (by omega) (by omega)
    obtain ⟨t2, a1, b1⟩ := ho T' rfl X'
    exact ⟨t2, stp.trans a1, b1⟩
/-- new E(text), thrown, in a method that has no handler -/
theorem V_throwSW (C : Ok X cc Ts own ret fr nL) (hl9 : (xL X).stackTraces = false) {cls text : String} {names : List String} {ik is ic sa : Nat} {B : List Cond} (hc : (xR X).cells = 1) (hs : (xR X).slots = 6) (hnt : ∀ x ∈ (xC X).exceptionTable.toList, False) (E : EnX X S mu la cls)
    (hcls : Bundle.fit cls = true) (hnames : ∀ n ∈ names, Bundle.fit n = true) (hk : Cond.classLink own ik cls ∈ Ts) (hini : Cond.initialized cls ∈ Ts) (hstr : vk_R own is text sa (xS X))
    (h1 : ∀ w ∈ (vx_atS own ic cls names).filter goodWord, w ∈ Ts) (h2 : ∀ w ∈ (vx_atS own ic cls names).filter (fun w => !goodWord w), w ∈ B) (h3 : ∀ w ∈ B, w.before (xA X) (xS X) = true)
    (hgood : ∀ w ∈ Cond.classLink own ik cls :: Cond.initialized cls :: vx_atS own ic cls names, vx_ot w = true)
    (hU : vx_Zq Bundle.tN "UNASSIGNED_STACK" Bundle.steD (gA (xG X)) (xS X) (xS X).heap) (hN : vx_Zq Bundle.tN "SUPPRESSED_SENTINEL" Bundle.listD (gA (xG X)) (xS X) (xS X).heap)
    (d0 : decode cc pc = .ok (.new ik, 3)) (d3 : decode cc (pc + 3) = .ok (.dup, 1)) (d4 : decode cc (pc + 4) = .ok (.ldc_w is, 3)) (d7 : decode cc (pc + 7) = .ok (.invokespecial ic, 3)) (d10 : decode cc (pc + 10) = .ok (.athrow, 1))
    (hfr : names.length + 3 < fr) (hre : 13 * (names.length + 1) + 43 ≤ 30 * fr) : V X pc r [] S n mu la 0 0 := by
  intro H locs ls hH hS hl
  rw [E]
  refine vx_throwSW (A := gA (xG X)) (sa := sa) C.1 C.2.1 hl9 C.own hcls hnames (C.ts _ hk) (C.ts _ hini) hstr (vx_hat (B := B) (fun w hw => C.ts _ (h1 w hw)) h2 h3) hgood hU hN hS (hl.1.trans C.2.2.1.symm) d0 d3 d4 d7 d10 (fun x hx => (hnt x hx).elim) (by rw [C.frames]; exact hfr) (by rw [C.regs]; simpa using hre) (by omega) (by omega) C.locks
    (fun t _ hz hq => ⟨rfl, ⟨t.heap.size, hH.grown hz hq⟩, ?_⟩) (fun z hz => hS.2.2 z hz) (by omega) (by omega)
  exact ⟨Nat.le_trans hS.1 hz, fun q h1 h2 => by rw [hq q (Nat.lt_of_lt_of_le h1 hS.1)]; exact hS.2.1 q h1 h2⟩
theorem V_putNG (C : Ok X cc Ts own ret fr nL) {a ci index N : Nat} {ks : List Sk} {Cn ref host : String} {T : u_T} {v : Value} {ty : FieldType} {mu' : Mem} {la' : Lam} (i : Nat) (hd : decode cc pc = .ok (.putfield index, 3)) (hx : hasS S a (.inr (.inr (ci, ks)))) (hc : vwCl[ci]? = some (Cn, T, N)) (hin : ∀ w ∈ u_ws Cn T N, w ∈ Ts)
    (ty0 : Nat → FieldType) (hty : ∀ k, k < N → parseFieldDescriptor (T k).2.2.1 = some (ty0 k)) (hnm : ∀ a, a < N → ∀ b, b < N → a ≠ b → (T a).2.1 ≠ (T b).2.1) (hi : i < N)
    (hlink : (Cond.fieldLinkNest own index ref (T i).2.1 (T i).2.2.1 host) ∈ nW) (href : (T i).1 = ref) (hfin : (T i).2.2.2 = false) (hds : parseFieldDescriptor (T i).2.2.1 = some ty) (hn : narrow ty v = v) (hfit : fits ty v = true) (hlen : i < ks.length) (hfs : oV (xG X) mu' la' a 0 ks = (oV (xG X) mu la a 0 ks).set i v)
    (h1 : ∀ b i, b ≠ a → mu' b i = mu b i) (h2 : ∀ b i, b ≠ a → la' b i = la b i)
    (kk : V X (pc + 3) r st S n mu' la' k sl) : V X pc r (v :: .ref a :: st) S n mu la k sl := by
  intro H locs ls hH hS hl
  obtain ⟨j, hj, hat⟩ := hH.obj hx
  obtain ⟨r9, g1, cell, q1, q2, q3, q4⟩ := hat
  have hr : r9 = (Cn, T, N) := Option.some.inj (g1.symm.trans hc)
  subst hr
  obtain ⟨hSl, hfc, kC, hkC, hkind⟩ := C.pe.1.1 ci _ hc
  obtain ⟨cf, kf, fi, f, hif, hsl⟩ := hSl i hi
  have hlay := C.ts _ (hin _ (u_in_lay hi))
  unfold u_lay at hlay
  rw [if_neg (by rw [hfin]; decide)] at hlay
  have hst := (u_facts hfc hkC (u_lays C.ts hin hi) hif).1
  have h6 := u_store hfc hkC hkind hlay hif hds hn hfit
  subst href
  refine va_WputK C.1 C.2.1 (f := f) C.own (va_Nw.use rfl (C.pe.2.1 _ hlink)) ((fun _ h => h) _ hif) hst (by rw [q2]; exact h6) q1 q3 (by rw [hsl]; exact k2_hasslot (q4 i hi)) rfl rfl hd fun H' e1 e2 e3 => ?_
  rw [hsl] at e1 ⊢
  refine kk H' _ ls (hH.put hx ?_ e2 e3 h1 h2) (hS.put e2 e3 (hH.2.1.2 j _ hj)) hl
  show va_at _ _ (a, .inr (ci, oV (xG X) mu' la' a 0 ks)) H'
  rw [hfs]
  exact obj_put C.ts hc hin ty0 hty hnm C.pe.1 q2 q3 q4 hi (by rw [oV_len]; exact hlen) e1
theorem V_putNJ (C : Ok X cc Ts own ret fr nL) {a ci index N : Nat} {ks : List Sk} {Cn ref host : String} {T : u_T} {v : Int} (i : Nat) (j : Int) (hj : ((i : Nat) : Int) = j) (hd : decode cc pc = .ok (.putfield index, 3)) (hx : hasS S a (.inr (.inr (ci, ks)))) (hc : vwCl[ci]? = some (Cn, T, N)) (hin : ∀ w ∈ u_ws Cn T N, w ∈ Ts)
    (ty0 : Nat → FieldType) (hty : ∀ k, k < N → parseFieldDescriptor (T k).2.2.1 = some (ty0 k)) (hnm : ∀ a, a < N → ∀ b, b < N → a ≠ b → (T a).2.1 ≠ (T b).2.1) (hi : i < N)
    (hlink : (Cond.fieldLinkNest own index ref (T i).2.1 (T i).2.2.1 host) ∈ nW) (href : (T i).1 = ref) (hfin : (T i).2.2.2 = false) (hds : parseFieldDescriptor (T i).2.2.1 = some .int) (hks : ks[i]? = some (.inr 0)) {mu' : Mem} (hm : up mu a j v = mu')
    (kk : V X (pc + 3) r st S n mu' la k sl) : V X pc r (.int (I32 v) :: .ref a :: st) S n mu la k sl := by
  subst hj; subst hm
  have hlen : i < ks.length := (List.getElem?_eq_some_iff.mp hks).1
  refine V_putNG C i hd hx hc hin ty0 hty hnm hi hlink href hfin hds rfl rfl hlen ?_ (fun b j hb => up_a mu _ _ _ hb) (fun _ _ _ => rfl) kk
  have e := oV_set (xG X) mu (up mu a i v) la la a ks 0 i (.inr 0) hlen (fun j hj => up_i mu a v (by omega)) (fun _ _ => rfl)
  rw [show ks.set i (.inr 0) = ks from by
    apply List.ext_getElem?
    intro j
    by_cases hj : j = i
    · subst hj; rw [List.getElem?_set_self hlen, hks]
    · rw [List.getElem?_set_ne (Ne.symm hj)]] at e
  rw [e]
  simp [sV, up_s]
end VT
/-! What throwIf rests on -/
def exN : List String := ["java/lang/RuntimeException", "java/lang/Exception"]
def exB : List Cond := (vx_atS RX8 360 "java/lang/IndexOutOfBoundsException" exN ++ vx_atS RX8 367 "java/lang/IllegalArgumentException" exN ++ vx_atS RX8 372 "java/lang/IllegalStateException" exN).filter (fun w => !goodWord w)
def TX (A : Nat → Prop) (U : State) : Prop :=
  vx_Zq Bundle.tN "UNASSIGNED_STACK" Bundle.steD A U U.heap ∧ vx_Zq Bundle.tN "SUPPRESSED_SENTINEL" Bundle.listD A U U.heap ∧
  (∃ a, vk_R RX8 358 "there is no such pane or cell" a U) ∧ (∃ a, vk_R RX8 365 "an argument is out of range" a U) ∧ (∃ a, vk_R RX8 370 "what there is does not allow this" a U) ∧
  ∀ w ∈ exB, ∀ args : Array Value, w.before args U = true
/-- the tables' own predicate gives what throwIf needs -/
def GX (G : Gx) : Prop := ∀ U, G.2.2.2.2 U → TX (gA G) U
def exn (f : Int) : String := if f = 1 then "java/lang/IndexOutOfBoundsException" else if f = 2 then "java/lang/IllegalArgumentException" else "java/lang/IllegalStateException"
section TI
variable {G : Gx} {l : Launch} {S : Sh} {n : Nat} {mu : Mem} {la : Lam}
theorem dX8_throwIf_0 : decode cX8_throwIf 0 = .ok (.iload_n 0, 1) := by decide +kernel
theorem dX8_throwIf_1 : decode cX8_throwIf 1 = .ok (.iconst 1, 1) := by decide +kernel
theorem dX8_throwIf_2 : decode cX8_throwIf 2 = .ok (.if_icmp .ne 14, 3) := by decide +kernel
theorem dX8_throwIf_5 : decode cX8_throwIf 5 = .ok (.new 356, 3) := by decide +kernel
theorem dX8_throwIf_8 : decode cX8_throwIf 8 = .ok (.dup, 1) := by decide +kernel
theorem dX8_throwIf_9 : decode cX8_throwIf 9 = .ok (.ldc_w 358, 3) := by decide +kernel
theorem dX8_throwIf_12 : decode cX8_throwIf 12 = .ok (.invokespecial 360, 3) := by decide +kernel
theorem dX8_throwIf_15 : decode cX8_throwIf 15 = .ok (.athrow, 1) := by decide +kernel
theorem dX8_throwIf_16 : decode cX8_throwIf 16 = .ok (.iload_n 0, 1) := by decide +kernel
theorem dX8_throwIf_17 : decode cX8_throwIf 17 = .ok (.iconst 2, 1) := by decide +kernel
theorem dX8_throwIf_18 : decode cX8_throwIf 18 = .ok (.if_icmp .ne 14, 3) := by decide +kernel
theorem dX8_throwIf_21 : decode cX8_throwIf 21 = .ok (.new 363, 3) := by decide +kernel
theorem dX8_throwIf_24 : decode cX8_throwIf 24 = .ok (.dup, 1) := by decide +kernel
theorem dX8_throwIf_25 : decode cX8_throwIf 25 = .ok (.ldc_w 365, 3) := by decide +kernel
theorem dX8_throwIf_28 : decode cX8_throwIf 28 = .ok (.invokespecial 367, 3) := by decide +kernel
theorem dX8_throwIf_31 : decode cX8_throwIf 31 = .ok (.athrow, 1) := by decide +kernel
theorem dX8_throwIf_32 : decode cX8_throwIf 32 = .ok (.iload_n 0, 1) := by decide +kernel
theorem dX8_throwIf_33 : decode cX8_throwIf 33 = .ok (.iconst 3, 1) := by decide +kernel
theorem dX8_throwIf_34 : decode cX8_throwIf 34 = .ok (.if_icmp .ne 14, 3) := by decide +kernel
theorem dX8_throwIf_37 : decode cX8_throwIf 37 = .ok (.new 368, 3) := by decide +kernel
theorem dX8_throwIf_40 : decode cX8_throwIf 40 = .ok (.dup, 1) := by decide +kernel
theorem dX8_throwIf_41 : decode cX8_throwIf 41 = .ok (.ldc_w 370, 3) := by decide +kernel
theorem dX8_throwIf_44 : decode cX8_throwIf 44 = .ok (.invokespecial 372, 3) := by decide +kernel
theorem dX8_throwIf_47 : decode cX8_throwIf 47 = .ok (.athrow, 1) := by decide +kernel
theorem dX8_throwIf_48 : decode cX8_throwIf 48 = .ok (.return_, 1) := by decide +kernel
theorem c_throwIf0 (hG : GP G) : Ct G l yX8_throwIf wsX8_throwIf 0 0 0 [.int (I32 0)] S n mu la (Dt none S n mu la) := by
  refine Ct.ofV (cc := cX8_throwIf) (nL := 1) (ret := none) [some (.int (I32 0))] hG (by decide) rfl (Nat.le_of_ble_eq_true rfl) rfl ?_
  rintro X rfl rfl C hcl hsl E
  refine V_iload_n C dX8_throwIf_0 rfl ?_
  refine V_iconst C dX8_throwIf_1 ?_
  refine V_icmp_ne C 16 dX8_throwIf_2 (by decide) (by omega) (by omega) (fun z => ?_) (fun z => ?_)
  · refine V_iload_n C dX8_throwIf_16 rfl ?_
    refine V_iconst C dX8_throwIf_17 ?_
    refine V_icmp_ne C 32 dX8_throwIf_18 (by decide) (by omega) (by omega) (fun z => ?_) (fun z => ?_)
    · refine V_iload_n C dX8_throwIf_32 rfl ?_
      refine V_iconst C dX8_throwIf_33 ?_
      refine V_icmp_ne C 48 dX8_throwIf_34 (by decide) (by omega) (by omega) (fun z => ?_) (fun z => ?_)
      · refine V_return C E dX8_throwIf_48 (by omega) (by omega) ?_
        exact Dt_rfl
      · exact absurd z (by decide)
    · exact absurd z (by decide)
  · exact absurd z (by decide)
theorem c_throwIfX (hG : GP G) (hGX : GX G) (hl9 : l.stackTraces = false) {f : Int} (hf : f = 1 ∨ f = 2 ∨ f = 3) : CtX G l yX8_throwIf wsX8_throwIf 6 [.int (I32 f)] S n mu la (exn f) := by
  refine CtX.ofV (cc := cX8_throwIf) (nL := 1) (ret := none) [some (.int (I32 f))] hG (by decide) rfl (Nat.le_of_ble_eq_true rfl) rfl ?_
  rintro X rfl rfl C hcl hsl hnt E
  obtain ⟨hU, hN, ⟨a1, s1⟩, ⟨a2, s2⟩, ⟨a3, s3⟩, hB⟩ := hGX _ C.pe.2.2
  refine V_iload_n C dX8_throwIf_0 rfl ?_
  refine V_iconst C dX8_throwIf_1 ?_
  refine V_icmp_ne C 16 dX8_throwIf_2 (by decide) (by omega) (by omega) (fun z => ?_) (fun z => ?_)
  · refine V_iload_n C dX8_throwIf_16 rfl ?_
    refine V_iconst C dX8_throwIf_17 ?_
    refine V_icmp_ne C 32 dX8_throwIf_18 (by decide) (by omega) (by omega) (fun z2 => ?_) (fun z2 => ?_)
    · refine V_iload_n C dX8_throwIf_32 rfl ?_
      refine V_iconst C dX8_throwIf_33 ?_
      refine V_icmp_ne C 48 dX8_throwIf_34 (by decide) (by omega) (by omega) (fun z3 => ?_) (fun z3 => ?_)
      · exact absurd z3 (by omega)
      · rw [exn, if_neg z, if_neg z2] at E
        exact V_throwSW C hl9 hcl hsl hnt E (names := exN) (by decide +kernel) (by decide +kernel) (by decide +kernel) (by decide +kernel) s3 (by decide +kernel) (by decide +kernel : ∀ w ∈ _, w ∈ exB) (fun w hw => hB w hw _) (by decide +kernel) hU hN dX8_throwIf_37 dX8_throwIf_40 dX8_throwIf_41 dX8_throwIf_44 dX8_throwIf_47 (by decide) (by decide)
    · rw [exn, if_neg z, if_pos z2] at E
      exact V_throwSW C hl9 hcl hsl hnt E (names := exN) (by decide +kernel) (by decide +kernel) (by decide +kernel) (by decide +kernel) s2 (by decide +kernel) (by decide +kernel : ∀ w ∈ _, w ∈ exB) (fun w hw => hB w hw _) (by decide +kernel) hU hN dX8_throwIf_21 dX8_throwIf_24 dX8_throwIf_25 dX8_throwIf_28 dX8_throwIf_31 (by decide) (by decide)
  · rw [exn, if_pos z] at E
    exact V_throwSW C hl9 hcl hsl hnt E (names := exN) (by decide +kernel) (by decide +kernel) (by decide +kernel) (by decide +kernel) s1 (by decide +kernel) (by decide +kernel : ∀ w ∈ _, w ∈ exB) (fun w hw => hB w hw _) (by decide +kernel) hU hN dX8_throwIf_5 dX8_throwIf_8 dX8_throwIf_9 dX8_throwIf_12 dX8_throwIf_15 (by decide) (by decide)
end TI
