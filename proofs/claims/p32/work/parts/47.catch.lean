/-! CAUGHT: a call of a method that throws, in a method that catches it -/
section VX
variable {X : Cx} {cc : ByteArray} {Ts : List Cond} {own : String} {ret : Option FieldType} {fr nL : Nat} {pc : Nat} {r : Rg} {st : List Value} {S : Sh} {n : Nat} {mu : Mem} {la : Lam} {k sl : Nat}
theorem V_callVC (C : Ok X cc Ts own ret fr nL) {E0 : String} {index ci nA maxL fc b : Nat} {Cn : String} {y : MethodName} {ws ws' : List Cond} {bytes : ByteArray} {rt : Option FieldType} {As rest : List Value} {ks : List Sk} {T0 : u_T} {N : Nat}
    (hd : decode cc pc = .ok (.invokevirtual index, 3)) (hM : CtX (xG X) (xL X) y ws fc (.ref b :: As) S n mu la E0) (hG : GoodIn Ts (wsV own index Cn y ws)) (hw : ws = Cond.code y bytes maxL rt :: ws')
    (hx : hasS S b (.inr (.inr (ci, ks)))) (hc : vwCl[ci]? = some (Cn, T0, N)) (hy : y.cls = Cn ∧ y.cls ≠ "java/lang/invoke/MethodHandle" ∧ y.cls ≠ "java/lang/invoke/VarHandle" ∧ (parseMethodDescriptor y.desc).map (fun d => d.parameters.length) = some nA)
    (hn : As.length = nA) (hfr : fc + 1 ≤ fr) (hml : maxL ≤ 11) (hcat : (rest.map fun v => v.category).sum ≤ 8) (hf : k + 1 ≤ (xR X).cells ∧ sl + 6 ≤ (xR X).slots) {st0 : List Value} (hst : st0 = psh (.ref b :: As) rest)
    {name : String} (pre : List ExceptionTableEntry) (x : ExceptionTableEntry) (suf : List ExceptionTableEntry) (hsplit : (xC X).exceptionTable.toList = pre ++ x :: suf)
    (hpass : ∀ z ∈ pre, covers z pc = false ∨ (z.catchType ≠ 0 ∧ ∃ nm : String, (Cond.classLink own z.catchType nm).before (xA X) (xS X) = true ∧ va_Nc E0 nm (xS X))) (hxc : covers x pc = true) (h0 : x.catchType ≠ 0)
    (hlink : (Cond.classLink own x.catchType name).before (xA X) (xS X) = true) (hcast : (Cond.castable E0 name).before (xA X) (xS X) = true)
    (kk : ∀ (q n' : Nat), V X x.handlerPc r [.ref q] S n' mu la (k + 1) (sl + 6)) : V X pc r st0 S n mu la k sl := by
  intro H locs ls hH hS hl
  obtain ⟨j, hj, -⟩ := hH.obj hx
  have hr := vx_runV (free := gA (xG X)) (H := H) (locs := locs) (cells := k) (slots := sl) (g := F0 (xM X) pc ls st0) (e := xE X) (below := xB X) (meth := xT X) ⟨C.1, C.2.1, C.2.2.1, C.own, C.ts⟩ hM (cwV nA C.ts hG hw rfl rfl hy ⟨by rw [C.frames]; exact hfr, by rw [C.regs]; show 8 + (maxL + 11) + 30 * fc ≤ _; omega⟩)
    ⟨Pm_blind C.gp, va_recv (q := (Cn, T0, N)) C.pe.1 hH.1 hc hj, V_pre C hH hS (.ref b :: As)⟩ rfl hn hl.1 (by rw [hst, psh_eq]; simp) (cat_le hcat) hd hf
  intro T hT XX
  rcases hr T hT XX with ⟨v, st₀, t, T', L, h0, X', hL, e1, e2, hq, -⟩ | ⟨q, st₀, t, T', L, Ex, ce, h9, X', hL, e1, e2, hx9, hce, hcv, hcl, stp⟩
  · exact hq.elim
  · obtain ⟨rfl, ⟨n', hH'⟩, hz, hq⟩ := hx9
    rw [h9] at hz hq
    rw [← e1] at hH' hce hz hq
    have hS' : va_S (gA (xG X)) (xS X).heap T'.heap (locs ++ L) := ⟨Nat.le_trans hS.1 hz, fun q9 h1 h2 => by rw [hq q9 (Nat.lt_of_lt_of_le h1 hS.1) h2]; exact hS.2.1 q9 h1 h2, fun q9 hq9 => by
      rcases List.mem_append.mp hq9 with h | h
      · exact hS.2.2 q9 h
      · exact hL q9 h⟩
    obtain ⟨t2, a1, b1⟩ := vx_catch (rest := rest) C.own pre x suf hsplit hpass hxc h0 hlink hcast hce hcv hcl (kk q n' T'.heap (locs ++ L) ls hH' hS' hl) T' rfl X'
    exact ⟨t2, stp.trans a1, b1⟩
end VX
/-- a method with handlers, that returns -/
theorem Ct.ofH {G : Gx} {l : Launch} {y : MethodName} {ws ws' : List Cond} {fr mc ms nL : Nat} {av : List Value} {S : Sh} {n : Nat} {mu : Mem} {la : Lam} {Po : Option Value → Sh → Nat → Mem → Lam → Prop} {cc : ByteArray} {ret : Option FieldType} {hh : List (Nat × Nat × Nat × Nat)} (r : Rg)
    (hG : GP G) (hy : plainName y.cls = true) (hw : ws = Cond.codeWith y cc nL ret hh :: ws') (hle : (lg_sl av).length ≤ nL) (hr : rOf 0 r = lv_args 0 av)
    (body : ∀ X : Cx, xG X = G → xL X = l → Ok X cc ws y.cls ret fr nL → (xC X).exceptionTable.toList = tableOf hh → (xR X).cells = mc → (xR X).slots = ms → En X mc ms Po → V X 0 r [] S n mu la 0 0) : Ct G l y ws fr mc ms av S n mu la Po := by
  unfold Ct Met
  refine MetFree.of_bodyS (code := cc) (maxLocals := nL) (ret := ret) hy ?_ ?_
  · intro args s m h hn
    obtain ⟨m9, meth, c, hn9, h1, h2, h3, h4, -, h5, h6, -⟩ := Cond.codeWith_spec (atoms_spec (ws := ws) h _ (by rw [hw]; exact List.mem_cons_self))
    cases hn.symm.trans hn9
    exact ⟨meth, c, h1, h2, h3, h4, h5, h6⟩
  · intro p e s m args below meth c s₁ B hml hv _
    have hh0 : s₁.heap = s.heap := by rw [B.state]; rfl
    obtain ⟨rfl, hpe, hH⟩ := hv
    have hts := atoms_spec (ws := ws) B.pre
    have htab := vx_table (x := y) B (hts _ (by rw [hw]; exact List.mem_cons_self))
    have hown : s.vm.findClass y.cls = some m.cls := findClass_of_methodNamed B.named
    have hX := Stand.of_body B
    have hl := lv_entry av (n := nL) hle
    rw [lg_entry_eq]
    generalize (lg_sl av ++ List.replicate (nL - (lg_sl av).length) Slot.unset).toArray = ls at hl ⊢
    rw [← hr] at hl
    obtain ⟨t, a1, o, b1, b2, b3⟩ := body (p, l, e, (headSpec ws (rmOf fr mc ms)).room, s, m, av.toArray, below, meth, c, MQ below (Qm G Po) av.toArray s mc ms (gA G), nL, G) rfl rfl
      ⟨B.exec, B.bytes, hml, rfl, hown, hts, B.returns, B.notSynchronized, hpe, Nat.le_trans hH.2.2.2 (Nat.le_of_eq hH.2.2.1.symm), hG, rfl, rfl⟩ htab rfl rfl rfl s.heap [] ls hH va_S.rf hl s₁ hh0 hX
    exact ⟨t, o, a1, b1, b2, b3⟩
theorem V_callSH {X : Cx} {cc : ByteArray} {Ts : List Cond} {own : String} {ret : Option FieldType} {fr nL : Nat} {pc : Nat} {r : Rg} {S : Sh} {n : Nat} {mu : Mem} {la : Lam} {k sl : Nat} (C : Ok X cc Ts own ret fr nL) {index nA maxL fc mcc msc : Nat} {y : MethodName} {ws ws' : List Cond} {bytes : ByteArray} {rt : Option FieldType} {hh : List (Nat × Nat × Nat × Nat)} {As rest : List Value} {Pc : Option Value → Sh → Nat → Mem → Lam → Prop}
    (hd : decode cc pc = .ok (.invokestatic index, 3)) (hM : Ct (xG X) (xL X) y ws fc mcc msc As S n mu la Pc) (hG : GoodIn Ts (va_wsS own index y ws)) (hw : ws = Cond.codeWith y bytes maxL rt hh :: ws')
    (hy : y.cls ≠ "java/lang/invoke/MethodHandle" ∧ y.cls ≠ "java/lang/invoke/VarHandle" ∧ (parseMethodDescriptor y.desc).map (fun d => d.parameters.length) = some nA)
    (hn : As.length = nA) (hfr : fc + 1 ≤ fr) (hml : maxL ≤ 11) (hcat : (rest.map fun v => v.category).sum ≤ 8) (hf : k + mcc ≤ (xR X).cells ∧ sl + msc ≤ (xR X).slots) {st0 : List Value} (hst : st0 = psh As rest)
    (kk : ∀ (o : Option Value) (S' : Sh) (n' : Nat) (mu' : Mem) (la' : Lam), Pc o S' n' mu' la' → V X (pc + 3) r (o.toList ++ rest) S' n' mu' la' (k + mcc) (sl + msc)) : V X pc r st0 S n mu la k sl := by
  intro H locs ls hH hS hl
  refine V_ran C (vx_runSW (hh := hh) ⟨C.1, C.2.1, C.2.2.1, C.own, C.ts⟩ hM (vx_cwSW nA C.ts hG hw rfl rfl hy ⟨by rw [C.frames]; exact hfr, by rw [C.regs]; show 8 + (maxL + 11) + 30 * fc ≤ _; omega⟩)
    ⟨Pm_blind C.gp, V_pre C hH hS As⟩ rfl hn hl.1 (by rw [hst, psh_eq]) (cat_le hcat) hd hf) hS hl kk
