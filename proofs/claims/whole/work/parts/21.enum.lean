/-! WHAT LIES AHEAD OF ALL: enum constants, their words, the table of the switch. Rows over them. -/
def eRw : Nat → List Int
  | 0 => [112, 97, 110, 101]
  | 1 => [101, 100, 103, 101]
  | 2 => [100, 111, 99, 107]
  | 3 => [102, 108, 111, 97, 116]
  | 4 => [99, 108, 111, 115, 101]
  | 5 => [115, 104, 97, 114, 101]
  | 6 => [115, 97, 118, 101]
  | 7 => [108, 111, 97, 100]
  | _ => []
def eRn : Nat → Int
  | 0 => 2
  | 1 => 2
  | 2 => 3
  | 3 => 5
  | 4 => 1
  | 5 => 2
  | 6 => 1
  | 7 => 1
  | _ => 0
def REn : String := "java/lang/Enum"
/-- a String at s with the bytes of word k -/
def StrAt (A : Nat → Prop) (U : State) (k s v : Nat) : Prop :=
  va_O "java/lang/String" s A U U.heap ∧ va_OF "java/lang/String" "coder" "B" (.int (I32 0)) s A U U.heap ∧ va_OF "java/lang/String" "value" "[B" (.ref v) s A U U.heap ∧ va_T .byte v (eRw k).length (fun j => .int (I32 ((eRw k).getD j 0))) A U U.heap
def EX (G : Gx) (U : State) : Prop :=
  (∃ aA, va_Z RX1 "ALL" "[LDockTree$Command;" (.ref aA) (gA G) U U.heap ∧ va_T (.object RX1) aA 8 (fun k => .ref (G.2.2.1 k)) (gA G) U U.heap) ∧
  (∃ aS, va_Z RX0 "$SwitchMap$DockTree$Command" "[I" (.ref aS) (gA G) U U.heap ∧ va_T .int aS 8 (fun k => .int (I32 (((k : Int) + 1) % 8))) (gA G) U U.heap) ∧
  va_Z "java/lang/String" "COMPACT_STRINGS" "Z" (.int (I32 1)) (gA G) U U.heap ∧ va_Zq "jdk/internal/util/Preconditions" "SIOOBE_FORMATTER" "Ljava/util/function/BiFunction;" (gA G) U U.heap ∧
  (∀ k, k < 8 → va_O RX1 (G.2.2.1 k) (gA G) U U.heap ∧ va_OF RX1 "numbers" "I" (.int (I32 (eRn k))) (G.2.2.1 k) (gA G) U U.heap ∧ va_OF "java/lang/Enum" "ordinal" "I" (.int (I32 (k : Int))) (G.2.2.1 k) (gA G) U U.heap ∧
    va_OF RX1 "word" "Ljava/lang/String;" (.ref (G.2.2.1 (k + 8))) (G.2.2.1 k) (gA G) U U.heap ∧ StrAt (gA G) U k (G.2.2.1 (k + 8)) (G.2.2.1 (k + 16)))
def GE (G : Gx) : Prop := ∀ U, G.2.2.2.2 U → EX G U
theorem eRef_0 (G : Gx) {x : Int} (h : x ≤ 0) : eRef G x = .null := by unfold eRef; rw [if_pos h]
theorem eRef_1 (G : Gx) (k : Nat) : eRef G ((k : Int) + 1) = .ref (G.2.2.1 k) := by
  unfold eRef
  rw [if_neg (by omega), show ((k : Int) + 1 - 1).toNat = k by omega]
section VEn
variable {X : Cx} {cc : ByteArray} {Ts : List Cond} {own : String} {ret : Option FieldType} {fr nL : Nat} {pc : Nat} {r : Rg} {st : List Value} {S : Sh} {n : Nat} {mu : Mem} {la : Lam} {k sl : Nat}
theorem V_gets (C : Ok X cc Ts own ret fr nL) {Cn nm ds : String} {v : Value} {index : Nat} (hd : decode cc pc = .ok (.getstatic index, 3)) (hZ : va_Z Cn nm ds v (gA (xG X)) (xS X) (xS X).heap) (hl : Cond.fieldLink own index Cn nm ds ∈ Ts)
    (kk : V X (pc + 3) r (v :: st) S n mu la k sl) : V X pc r st S n mu la k sl := fun H locs ls hH hS hls =>
  va_gets C.1 C.2.1 hZ hS C.own (C.ts _ hl) (fun _ h => h) hd (kk H locs ls hH hS hls)
theorem V_getsN (C : Ok X cc Ts own ret fr nL) {Cn nm ds host : String} {v : Value} {index : Nat} (hd : decode cc pc = .ok (.getstatic index, 3)) (hZ : va_Z Cn nm ds v (gA (xG X)) (xS X) (xS X).heap) (hl : Cond.fieldLinkNest own index Cn nm ds host ∈ nW)
    (kk : V X (pc + 3) r (v :: st) S n mu la k sl) : V X pc r st S n mu la k sl := fun H locs ls hH hS hls =>
  va_getsN C.1 C.2.1 hZ hS C.own (va_Nw.use rfl (C.pe.2.1 _ hl)) (fun _ h => h) hd (kk H locs ls hH hS hls)
theorem V_getf (C : Ok X cc Ts own ret fr nL) {Cn nm ds : String} {v : Value} {index q : Nat} (hd : decode cc pc = .ok (.getfield index, 3)) (hE : va_OF Cn nm ds v q (gA (xG X)) (xS X) (xS X).heap) (hl : Cond.fieldLink own index Cn nm ds ∈ Ts)
    (kk : V X (pc + 3) r (v :: st) S n mu la k sl) : V X pc r (.ref q :: st) S n mu la k sl := fun H locs ls hH hS hls =>
  vk_getf C.1 C.2.1 hE hS C.own (C.ts _ hl) (fun _ h => h) hd (kk H locs ls hH hS hls)
theorem V_getfN (C : Ok X cc Ts own ret fr nL) {Cn nm ds host : String} {v : Value} {index q : Nat} (hd : decode cc pc = .ok (.getfield index, 3)) (hE : va_OF Cn nm ds v q (gA (xG X)) (xS X) (xS X).heap) (hl : Cond.fieldLinkNest own index Cn nm ds host ∈ nW)
    (kk : V X (pc + 3) r (v :: st) S n mu la k sl) : V X pc r (.ref q :: st) S n mu la k sl := fun H locs ls hH hS hls => by
  obtain ⟨cf, k9, fi, f, cell, h1, h2, h3, h4, h5, h6⟩ := hE.kept hS.2.1
  exact va_Wgetf C.1 C.2.1 C.own (va_Nw.use rfl (C.pe.2.1 _ hl)) h1 h2 h3 h4 (v := v) h5 rfl rfl hd (kk H locs ls hH hS hls)
theorem V_tq (C : Ok X cc Ts own ret fr nL) {Cn : String} {t N : Nat} {f : Nat → Value} {i : Int} (hd : decode cc pc = .ok (.aaload, 1)) (hT : va_T (.object Cn) t N f (gA (xG X)) (xS X) (xS X).heap) (hi : 0 ≤ i ∧ i < N) (hN : N < 2147483648)
    (kk : V X (pc + 1) r (f i.toNat :: st) S n mu la k sl) : V X pc r (.int (I32 i) :: .ref t :: st) S n mu la k sl := fun H locs ls hH hS hls =>
  vb_tq C.1 C.2.1 hT hS (I32_in hi hN) (by rw [I32_clamp (by omega)]) hd (kk H locs ls hH hS hls)
theorem V_ti (C : Ok X cc Ts own ret fr nL) {t N : Nat} {f : Nat → Value} {i : Int} (hd : decode cc pc = .ok (.iaload, 1)) (hT : va_T .int t N f (gA (xG X)) (xS X) (xS X).heap) (hi : 0 ≤ i ∧ i < N) (hN : N < 2147483648)
    (kk : V X (pc + 1) r (f i.toNat :: st) S n mu la k sl) : V X pc r (.int (I32 i) :: .ref t :: st) S n mu la k sl := fun H locs ls hH hS hls =>
  va_ti C.1 C.2.1 hT hS (I32_in hi hN) (by rw [I32_clamp (by omega)]) hd (kk H locs ls hH hS hls)
theorem V_tb (C : Ok X cc Ts own ret fr nL) {t N : Nat} {f : Nat → Value} {i : Int} (hd : decode cc pc = .ok (.baload, 1)) (hT : va_T .byte t N f (gA (xG X)) (xS X) (xS X).heap) (hi : 0 ≤ i ∧ i < N) (hN : N < 2147483648)
    (kk : V X (pc + 1) r (f i.toNat :: st) S n mu la k sl) : V X pc r (.int (I32 i) :: .ref t :: st) S n mu la k sl := fun H locs ls hH hS hls =>
  va_tb C.1 C.2.1 hT hS (I32_in hi hN) (by rw [I32_clamp (by omega)]) hd (kk H locs ls hH hS hls)
theorem V_tlen (C : Ok X cc Ts own ret fr nL) {ty : FieldType} {t N : Nat} {f : Nat → Value} (hd : decode cc pc = .ok (.arraylength, 1)) (hT : va_T ty t N f (gA (xG X)) (xS X) (xS X).heap)
    (kk : V X (pc + 1) r (.int (I32 N) :: st) S n mu la k sl) : V X pc r (.ref t :: st) S n mu la k sl := fun H locs ls hH hS hls =>
  va_tlen C.1 C.2.1 hT hS (I32_nat N) hd (kk H locs ls hH hS hls)
theorem V_ishr (C : Ok X cc Ts own ret fr nL) {x y v : Int32} (hd : decode cc pc = .ok (.ishr, 1)) (hv : x >>> (y &&& 31) = v)
    (kk : V X (pc + 1) r (.int v :: st) S n mu la k sl) : V X pc r (.int y :: .int x :: st) S n mu la k sl := fun H locs ls hH hS hls => by
  subst hv; exact lv_ishr C.1 C.2.1 hd (kk H locs ls hH hS hls)
theorem V_i2c (C : Ok X cc Ts own ret fr nL) {x v : Int32} (hd : decode cc pc = .ok (.i2c, 1)) (hv : (x.toUInt32 % 65536).toInt32 = v)
    (kk : V X (pc + 1) r (.int v :: st) S n mu la k sl) : V X pc r (.int x :: st) S n mu la k sl := fun H locs ls hH hS hls => lv_i2c C.1 C.2.1 hd hv (kk H locs ls hH hS hls)
theorem V_pop (C : Ok X cc Ts own ret fr nL) {v : Value} (hv : v.category = 1) (hd : decode cc pc = .ok (.pop, 1))
    (kk : V X (pc + 1) r st S n mu la k sl) : V X pc r (v :: st) S n mu la k sl := fun H locs ls hH hS hls => lv_pop C.1 C.2.1 hd hv (kk H locs ls hH hS hls)
/-- a return of a narrow type -/
theorem V_nreturn {ty : FieldType} {mc ms : Nat} {Po : Option Value → Sh → Nat → Mem → Lam → Prop} (C : Ok X cc Ts own (some ty) fr nL) (E : En X mc ms Po) {v : Int32} (hv : narrow ty (.int v) = .int v) (hd : decode cc pc = .ok (.ireturn, 1)) (h1 : k ≤ mc) (h2 : sl ≤ ms) (hp : Po (some (.int v)) S n mu la) : V X pc r [.int v] S n mu la k sl := by
  refine V_widen h1 h2 fun H locs ls hH hS hl => ?_
  rw [E]
  exact W.zret (v := v) (ty := ty) C.1 C.2.1 C.ret hv (fun t ht _ => Qm_of hp hH hS ht) hS.2.2 hd C.locks
theorem V_getE (C : Ok X cc Ts own ret fr nL) {a ci index N : Nat} {ks : List Sk} {Cn ref : String} {T : u_T} (i : Nat) (j : Int) (hj : ((i : Nat) : Int) = j) (hd : decode cc pc = .ok (.getfield index, 3)) (hx : hasS S a (.inr (.inr (ci, ks)))) (hc : vwCl[ci]? = some (Cn, T, N)) (hin : ∀ w ∈ u_ws Cn T N, w ∈ Ts) (hi : i < N)
    (hlink : (Cond.fieldLink own index ref (T i).2.1 (T i).2.2.1) ∈ Ts) (href : (T i).1 = ref) (hks : ks[i]? = some (.inr 2)) {x : Int} (hv : mu a j = x)
    (kk : V X (pc + 3) r (eRef (xG X) x :: st) S n mu la k sl) : V X pc r (.ref a :: st) S n mu la k sl := by
  subst hj; subst hv
  exact V_getG C i hd hx hc hin hi hlink href hks kk
theorem V_putE (C : Ok X cc Ts own ret fr nL) {a ci index N : Nat} {ks : List Sk} {Cn ref Cx9 : String} {T : u_T} {v : Int} {w : Value} (i : Nat) (j : Int) (hj : ((i : Nat) : Int) = j) (hw : w = eRef (xG X) v) (hd : decode cc pc = .ok (.putfield index, 3)) (hx : hasS S a (.inr (.inr (ci, ks)))) (hc : vwCl[ci]? = some (Cn, T, N)) (hin : ∀ w ∈ u_ws Cn T N, w ∈ Ts)
    (ty0 : Nat → FieldType) (hty : ∀ k, k < N → parseFieldDescriptor (T k).2.2.1 = some (ty0 k)) (hnm : ∀ a, a < N → ∀ b, b < N → a ≠ b → (T a).2.1 ≠ (T b).2.1) (hi : i < N)
    (hlink : (Cond.fieldLink own index ref (T i).2.1 (T i).2.2.1) ∈ Ts) (href : (T i).1 = ref) (hfin : (T i).2.2.2 = false) (hds : parseFieldDescriptor (T i).2.2.1 = some (.object Cx9)) (hks : ks[i]? = some (.inr 2)) {mu' : Mem} (hm : up mu a j v = mu')
    (kk : V X (pc + 3) r st S n mu' la k sl) : V X pc r (w :: .ref a :: st) S n mu la k sl := by
  subst hj; subst hm; subst hw
  have hlen : i < ks.length := (List.getElem?_eq_some_iff.mp hks).1
  have hr : eRef (xG X) v = .null ∨ ∃ q, eRef (xG X) v = .ref q := by
    unfold eRef; split
    · exact Or.inl rfl
    · exact Or.inr ⟨_, rfl⟩
  refine V_putG C i hd hx hc hin ty0 hty hnm hi hlink href hfin hds (by rcases hr with h | ⟨q, h⟩ <;> rw [h] <;> rfl) (by rcases hr with h | ⟨q, h⟩ <;> rw [h] <;> rfl) hlen ?_ (fun b j hb => up_a mu _ _ _ hb) (fun _ _ _ => rfl) kk
  have e := oV_set (xG X) mu (up mu a i v) la la a ks 0 i (.inr 2) hlen (fun j hj => up_i mu a v (by omega)) (fun _ _ => rfl)
  rw [show ks.set i (.inr 2) = ks from by
    apply List.ext_getElem?
    intro j
    by_cases hj : j = i
    · subst hj; rw [List.getElem?_set_self hlen, hks]
    · rw [List.getElem?_set_ne (Ne.symm hj)]] at e
  rw [e]
  simp [sV, up_s]
/-- a call on an object that was there before all -/
theorem V_callO (C : Ok X cc Ts own ret fr nL) {index nA maxL fc b : Nat} {Cn : String} {y : MethodName} {ws : List Cond} {bytes : ByteArray} {rt : Option FieldType} {As rest : List Value} {o : Option Value} {S' : Sh} {n' : Nat} {mu' : Mem} {la' : Lam}
    (hd : decode cc pc = .ok (.invokevirtual index, 3)) (hM : Ct (xG X) (xL X) y ws fc 0 0 (.ref b :: As) S n mu la (Dt o S' n' mu' la')) (hG : CallW (xR X) (xS X) (xA X) own Cn index y bytes maxL rt ws (rmOf fc 0 0) 0 0 nA)
    (hO : va_O Cn b (gA (xG X)) (xS X) (xS X).heap)
    (hn : As.length = nA) (hcat : (rest.map fun v => v.category).sum ≤ 8) (hf : k ≤ (xR X).cells ∧ sl ≤ (xR X).slots) {st0 : List Value} (hst : st0 = psh (.ref b :: As) rest)
    (kk : V X (pc + 3) r (oc o rest) S' n' mu' la' k sl) : V X pc r st0 S n mu la k sl := by
  intro H locs ls hH hS hl
  obtain ⟨cell, h1, h2, h3, -⟩ := hO.kept hS.2.1
  exact V_ran C (va_runV ⟨C.1, C.2.1, C.2.2.1, C.own, C.ts⟩ hM hG
    ⟨Pm_blind C.gp, ⟨cell, h1, h2, h3⟩, V_pre C hH hS (.ref b :: As)⟩ rfl hn hl.1 (by rw [hst, psh_eq]; simp) (cat_le hcat) hd hf) hS hl (V_toD kk)
theorem okV (C : Ok X cc Ts own ret fr nL) {index maxL fc : Nat} {Cn : String} {y : MethodName} {ws ws' : List Cond} {bytes : ByteArray} {rt : Option FieldType} (nA : Nat) (hG : GoodIn Ts (wsV own index Cn y ws)) (hw : ws = Cond.code y bytes maxL rt :: ws')
    (hy : y.cls = Cn ∧ y.cls ≠ "java/lang/invoke/MethodHandle" ∧ y.cls ≠ "java/lang/invoke/VarHandle" ∧ (parseMethodDescriptor y.desc).map (fun d => d.parameters.length) = some nA) (hfr : fc + 1 ≤ fr) (hml : maxL ≤ 11) : CallW (xR X) (xS X) (xA X) own Cn index y bytes maxL rt ws (rmOf fc 0 0) 0 0 nA :=
  cwV nA C.ts hG hw rfl rfl hy ⟨by rw [C.frames]; exact hfr, by rw [C.regs]; show 8 + (maxL + 11) + 30 * fc ≤ _; omega⟩
end VEn
section JD
theorem GE.c {G : Gx} (hE : GE G) {k : Nat} (hk : k < 8) : ∀ U, G.2.2.2.2 U → va_Z "java/lang/String" "COMPACT_STRINGS" "Z" (.int (I32 1)) (gA G) U U.heap ∧ StrAt (gA G) U k (G.2.2.1 (k + 8)) (G.2.2.1 (k + 16)) := fun U h => ⟨(hE U h).2.2.1, ((hE U h).2.2.2.2 k hk).2.2.2.2⟩
variable {G : Gx} {l : Launch} {S : Sh} {n : Nat} {mu : Mem} {la : Lam}
theorem dJ0_coder_7d493_0 : decode cJ0_coder_7d493 0 = .ok (.getstatic 38, 3) := by decide +kernel
theorem dJ0_coder_7d493_3 : decode cJ0_coder_7d493 3 = .ok (.ifCond .eq 10, 3) := by decide +kernel
theorem dJ0_coder_7d493_6 : decode cJ0_coder_7d493 6 = .ok (.aload_n 0, 1) := by decide +kernel
theorem dJ0_coder_7d493_7 : decode cJ0_coder_7d493 7 = .ok (.getfield 15, 3) := by decide +kernel
theorem dJ0_coder_7d493_10 : decode cJ0_coder_7d493 10 = .ok (.goto 4, 3) := by decide +kernel
theorem dJ0_coder_7d493_13 : decode cJ0_coder_7d493 13 = .ok (.iconst 1, 1) := by decide +kernel
theorem dJ0_coder_7d493_14 : decode cJ0_coder_7d493 14 = .ok (.ireturn, 1) := by decide +kernel
theorem j_coder (hG : GP G) {k : Nat} (hC : ∀ U, G.2.2.2.2 U → va_Z "java/lang/String" "COMPACT_STRINGS" "Z" (.int (I32 1)) (gA G) U U.heap ∧ StrAt (gA G) U k (G.2.2.1 (k + 8)) (G.2.2.1 (k + 16))) : Ct G l yJ0_coder_7d493 wsJ0_coder_7d493 0 0 0 [.ref (G.2.2.1 (k + 8))] S n mu la (Dt (some (.int (I32 0))) S n mu la) := by
  refine Ct.ofV (cc := cJ0_coder_7d493) (nL := 1) (ret := (some .byte)) [some (.ref (G.2.2.1 (k + 8)))] hG (by decide) rfl (Nat.le_of_ble_eq_true rfl) rfl ?_
  rintro X rfl rfl C hcl hsl E
  obtain ⟨e1, e2⟩ := hC _ C.pe.2.2
  refine V_gets C dJ0_coder_7d493_0 e1 (by decide +kernel) ?_
  refine V_if_eq C 13 dJ0_coder_7d493_3 (by decide) (by omega) (fun z => ?_) (fun z => ?_)
  · exact absurd z (by decide)
  · refine V_aload_n C dJ0_coder_7d493_6 rfl ?_
    refine V_getf C dJ0_coder_7d493_7 e2.2.1 (by decide +kernel) ?_
    refine V_goto C 14 dJ0_coder_7d493_10 (by decide) ?_
    refine V_nreturn C E rfl dJ0_coder_7d493_14 (by omega) (by omega) ?_
    exact Dt_rfl
theorem dJ0_isLatin1_aae02_0 : decode cJ0_isLatin1_aae02 0 = .ok (.getstatic 38, 3) := by decide +kernel
theorem dJ0_isLatin1_aae02_3 : decode cJ0_isLatin1_aae02 3 = .ok (.ifCond .eq 14, 3) := by decide +kernel
theorem dJ0_isLatin1_aae02_6 : decode cJ0_isLatin1_aae02 6 = .ok (.aload_n 0, 1) := by decide +kernel
theorem dJ0_isLatin1_aae02_7 : decode cJ0_isLatin1_aae02 7 = .ok (.getfield 15, 3) := by decide +kernel
theorem dJ0_isLatin1_aae02_10 : decode cJ0_isLatin1_aae02 10 = .ok (.ifCond .ne 7, 3) := by decide +kernel
theorem dJ0_isLatin1_aae02_13 : decode cJ0_isLatin1_aae02 13 = .ok (.iconst 1, 1) := by decide +kernel
theorem dJ0_isLatin1_aae02_14 : decode cJ0_isLatin1_aae02 14 = .ok (.goto 4, 3) := by decide +kernel
theorem dJ0_isLatin1_aae02_17 : decode cJ0_isLatin1_aae02 17 = .ok (.iconst 0, 1) := by decide +kernel
theorem dJ0_isLatin1_aae02_18 : decode cJ0_isLatin1_aae02 18 = .ok (.ireturn, 1) := by decide +kernel
theorem j_isLatin1 (hG : GP G) {k : Nat} (hC : ∀ U, G.2.2.2.2 U → va_Z "java/lang/String" "COMPACT_STRINGS" "Z" (.int (I32 1)) (gA G) U U.heap ∧ StrAt (gA G) U k (G.2.2.1 (k + 8)) (G.2.2.1 (k + 16))) : Ct G l yJ0_isLatin1_aae02 wsJ0_isLatin1_aae02 0 0 0 [.ref (G.2.2.1 (k + 8))] S n mu la (Dt (some (.int (I32 1))) S n mu la) := by
  refine Ct.ofV (cc := cJ0_isLatin1_aae02) (nL := 1) (ret := (some .boolean)) [some (.ref (G.2.2.1 (k + 8)))] hG (by decide) rfl (Nat.le_of_ble_eq_true rfl) rfl ?_
  rintro X rfl rfl C hcl hsl E
  obtain ⟨e1, e2⟩ := hC _ C.pe.2.2
  refine V_gets C dJ0_isLatin1_aae02_0 e1 (by decide +kernel) ?_
  refine V_if_eq C 17 dJ0_isLatin1_aae02_3 (by decide) (by omega) (fun z => ?_) (fun z => ?_)
  · exact absurd z (by decide)
  · refine V_aload_n C dJ0_isLatin1_aae02_6 rfl ?_
    refine V_getf C dJ0_isLatin1_aae02_7 e2.2.1 (by decide +kernel) ?_
    refine V_if_ne C 17 dJ0_isLatin1_aae02_10 (by decide) (by omega) (fun z2 => ?_) (fun z2 => ?_)
    · exact absurd rfl z2
    · refine V_iconst C dJ0_isLatin1_aae02_13 ?_
      refine V_goto C 18 dJ0_isLatin1_aae02_14 (by decide) ?_
      refine V_zreturn C E (Or.inr rfl) dJ0_isLatin1_aae02_18 (by omega) (by omega) ?_
      exact Dt_rfl
theorem eRw_len (k : Nat) : (eRw k).length ≤ 5 := by unfold eRw; split <;> decide
set_option maxRecDepth 20000 in
theorem ggJ0_length_8abf5_J0_coder_7d493 : GoodIn wsJ0_length_8abf5 wsJ0_coder_7d493 := goodIn_r _ [6, 7, 8] (by decide +kernel) (by decide +kernel)
set_option maxRecDepth 20000 in
theorem gJ0_length_8abf5_J0_coder_7d493 : GoodIn wsJ0_length_8abf5 (wsV RJ0 335 RJ0 yJ0_coder_7d493 wsJ0_coder_7d493) := goodIn_app (goodIn_of _ (by decide +kernel)) ggJ0_length_8abf5_J0_coder_7d493
theorem dJ0_length_8abf5_0 : decode cJ0_length_8abf5 0 = .ok (.aload_n 0, 1) := by decide +kernel
theorem dJ0_length_8abf5_1 : decode cJ0_length_8abf5 1 = .ok (.getfield 9, 3) := by decide +kernel
theorem dJ0_length_8abf5_4 : decode cJ0_length_8abf5 4 = .ok (.arraylength, 1) := by decide +kernel
theorem dJ0_length_8abf5_5 : decode cJ0_length_8abf5 5 = .ok (.aload_n 0, 1) := by decide +kernel
theorem dJ0_length_8abf5_6 : decode cJ0_length_8abf5 6 = .ok (.invokevirtual 335, 3) := by decide +kernel
theorem dJ0_length_8abf5_9 : decode cJ0_length_8abf5 9 = .ok (.ishr, 1) := by decide +kernel
theorem dJ0_length_8abf5_10 : decode cJ0_length_8abf5 10 = .ok (.ireturn, 1) := by decide +kernel
theorem j_length (hG : GP G) {k : Nat} (hC : ∀ U, G.2.2.2.2 U → va_Z "java/lang/String" "COMPACT_STRINGS" "Z" (.int (I32 1)) (gA G) U U.heap ∧ StrAt (gA G) U k (G.2.2.1 (k + 8)) (G.2.2.1 (k + 16))) : Ct G l yJ0_length_8abf5 wsJ0_length_8abf5 1 0 0 [.ref (G.2.2.1 (k + 8))] S n mu la (Dt (some (.int (I32 (eRw k).length))) S n mu la) := by
  refine Ct.ofV (cc := cJ0_length_8abf5) (nL := 1) (ret := (some .int)) [some (.ref (G.2.2.1 (k + 8)))] hG (by decide) rfl (Nat.le_of_ble_eq_true rfl) rfl ?_
  rintro X rfl rfl C hcl hsl E
  obtain ⟨e1, e2⟩ := hC _ C.pe.2.2
  have bl := eRw_len k
  refine V_aload_n C dJ0_length_8abf5_0 rfl ?_
  refine V_getf C dJ0_length_8abf5_1 e2.2.2.1 (by decide +kernel) ?_
  refine V_tlen C dJ0_length_8abf5_4 e2.2.2.2 ?_
  refine V_aload_n C dJ0_length_8abf5_5 rfl ?_
  refine V_callO C dJ0_length_8abf5_6 (j_coder C.gp hC) (okV C 0 gJ0_length_8abf5_J0_coder_7d493 rfl (by decide +kernel) (by decide) (by decide)) e2.1 rfl (Nat.le_of_ble_eq_true rfl) ⟨by omega, by omega⟩ rfl ?_
  refine V_ishr C dJ0_length_8abf5_9 (v := I32 (eRw k).length) (by
    have h : ∀ m : Nat, m ≤ 5 → I32 (m : Int) >>> (I32 0 &&& 31) = I32 (m : Int) := by decide
    exact h _ bl) ?_
  refine V_ireturn C E dJ0_length_8abf5_10 (by omega) (by omega) ?_
  exact Dt_rfl
theorem dJ3_checkIndex_8e157_0 : decode cJ3_checkIndex_8e157 0 = .ok (.iload_n 0, 1) := by decide +kernel
theorem dJ3_checkIndex_8e157_1 : decode cJ3_checkIndex_8e157 1 = .ok (.ifCond .lt 8, 3) := by decide +kernel
theorem dJ3_checkIndex_8e157_4 : decode cJ3_checkIndex_8e157 4 = .ok (.iload_n 0, 1) := by decide +kernel
theorem dJ3_checkIndex_8e157_5 : decode cJ3_checkIndex_8e157 5 = .ok (.iload_n 1, 1) := by decide +kernel
theorem dJ3_checkIndex_8e157_6 : decode cJ3_checkIndex_8e157 6 = .ok (.if_icmp .lt 10, 3) := by decide +kernel
theorem dJ3_checkIndex_8e157_9 : decode cJ3_checkIndex_8e157 9 = .ok (.aload_n 2, 1) := by decide +kernel
theorem dJ3_checkIndex_8e157_10 : decode cJ3_checkIndex_8e157 10 = .ok (.iload_n 0, 1) := by decide +kernel
theorem dJ3_checkIndex_8e157_11 : decode cJ3_checkIndex_8e157 11 = .ok (.iload_n 1, 1) := by decide +kernel
theorem dJ3_checkIndex_8e157_12 : decode cJ3_checkIndex_8e157 12 = .ok (.invokestatic 95, 3) := by decide +kernel
theorem dJ3_checkIndex_8e157_15 : decode cJ3_checkIndex_8e157 15 = .ok (.athrow, 1) := by decide +kernel
theorem dJ3_checkIndex_8e157_16 : decode cJ3_checkIndex_8e157 16 = .ok (.iload_n 0, 1) := by decide +kernel
theorem dJ3_checkIndex_8e157_17 : decode cJ3_checkIndex_8e157 17 = .ok (.ireturn, 1) := by decide +kernel
theorem j_checkIndex (hG : GP G) {i m : Int} (hi : 0 ≤ i ∧ i < m) (hm : m ≤ 2147483647) {w : Value} (hw : w = .null ∨ ∃ q, w = .ref q) : Ct G l yJ3_checkIndex_8e157 wsJ3_checkIndex_8e157 0 0 0 [.int (I32 i), .int (I32 m), w] S n mu la (Dt (some (.int (I32 i))) S n mu la) := by
  rcases hw with rfl | ⟨q, rfl⟩
  · refine Ct.ofV (cc := cJ3_checkIndex_8e157) (nL := 3) (ret := (some .int)) [some (.int (I32 i)), some (.int (I32 m)), some .null] hG (by decide) rfl (Nat.le_of_ble_eq_true rfl) rfl ?_
    rintro X rfl rfl C hcl hsl E
    refine V_iload_n C dJ3_checkIndex_8e157_0 rfl ?_
    refine V_if_lt C 9 dJ3_checkIndex_8e157_1 (by decide) (by omega) (fun z1 => ?_) (fun z1 => ?_)
    · exact absurd z1 (by first | omega | decide)
    · refine V_iload_n C dJ3_checkIndex_8e157_4 rfl ?_
      refine V_iload_n C dJ3_checkIndex_8e157_5 rfl ?_
      refine V_icmp_lt C 16 dJ3_checkIndex_8e157_6 (by decide) (by omega) (by omega) (fun z6 => ?_) (fun z6 => ?_)
      · refine V_iload_n C dJ3_checkIndex_8e157_16 rfl ?_
        refine V_ireturn C E dJ3_checkIndex_8e157_17 (by omega) (by omega) ?_
        exact Dt_rfl
      · exact absurd z6 (by first | omega | decide)
  · refine Ct.ofV (cc := cJ3_checkIndex_8e157) (nL := 3) (ret := (some .int)) [some (.int (I32 i)), some (.int (I32 m)), some (.ref q)] hG (by decide) rfl (Nat.le_of_ble_eq_true rfl) rfl ?_
    rintro X rfl rfl C hcl hsl E
    refine V_iload_n C dJ3_checkIndex_8e157_0 rfl ?_
    refine V_if_lt C 9 dJ3_checkIndex_8e157_1 (by decide) (by omega) (fun z1 => ?_) (fun z1 => ?_)
    · exact absurd z1 (by first | omega | decide)
    · refine V_iload_n C dJ3_checkIndex_8e157_4 rfl ?_
      refine V_iload_n C dJ3_checkIndex_8e157_5 rfl ?_
      refine V_icmp_lt C 16 dJ3_checkIndex_8e157_6 (by decide) (by omega) (by omega) (fun z6 => ?_) (fun z6 => ?_)
      · refine V_iload_n C dJ3_checkIndex_8e157_16 rfl ?_
        refine V_ireturn C E dJ3_checkIndex_8e157_17 (by omega) (by omega) ?_
        exact Dt_rfl
      · exact absurd z6 (by first | omega | decide)
set_option maxRecDepth 20000 in
theorem ggJ0_checkIndex_df160_J3_checkIndex_8e157 : GoodIn wsJ0_checkIndex_df160 wsJ3_checkIndex_8e157 := goodIn_r _ [5] (by decide +kernel) (by decide +kernel)
set_option maxRecDepth 20000 in
theorem gJ0_checkIndex_df160_J3_checkIndex_8e157 : GoodIn wsJ0_checkIndex_df160 (va_wsS RJ0 1059 yJ3_checkIndex_8e157 wsJ3_checkIndex_8e157) := goodIn_app (goodIn_of _ (by decide +kernel)) ggJ0_checkIndex_df160_J3_checkIndex_8e157
theorem dJ0_checkIndex_df160_0 : decode cJ0_checkIndex_df160 0 = .ok (.iload_n 0, 1) := by decide +kernel
theorem dJ0_checkIndex_df160_1 : decode cJ0_checkIndex_df160 1 = .ok (.iload_n 1, 1) := by decide +kernel
theorem dJ0_checkIndex_df160_2 : decode cJ0_checkIndex_df160 2 = .ok (.getstatic 1053, 3) := by decide +kernel
theorem dJ0_checkIndex_df160_5 : decode cJ0_checkIndex_df160 5 = .ok (.invokestatic 1059, 3) := by decide +kernel
theorem dJ0_checkIndex_df160_8 : decode cJ0_checkIndex_df160 8 = .ok (.pop, 1) := by decide +kernel
theorem dJ0_checkIndex_df160_9 : decode cJ0_checkIndex_df160 9 = .ok (.return_, 1) := by decide +kernel
theorem j_checkIndex0 (hG : GP G) (hE : GE G) {i m : Int} (hi : 0 ≤ i ∧ i < m) (hm : m ≤ 2147483647) : Ct G l yJ0_checkIndex_df160 wsJ0_checkIndex_df160 1 0 0 [.int (I32 i), .int (I32 m)] S n mu la (Dt none S n mu la) := by
  refine Ct.ofV (cc := cJ0_checkIndex_df160) (nL := 2) (ret := none) [some (.int (I32 i)), some (.int (I32 m))] hG (by decide) rfl (Nat.le_of_ble_eq_true rfl) rfl ?_
  rintro X rfl rfl C hcl hsl E
  obtain ⟨-, -, -, e4, -⟩ := hE _ C.pe.2.2
  refine V_iload_n C dJ0_checkIndex_df160_0 rfl ?_
  refine V_iload_n C dJ0_checkIndex_df160_1 rfl ?_
  rcases e4 with e4 | ⟨q, e4⟩
  · refine V_gets C dJ0_checkIndex_df160_2 e4 (by decide +kernel) ?_
    refine V_callSD (nA := 3) C dJ0_checkIndex_df160_5 (j_checkIndex C.gp hi hm (Or.inl rfl)) gJ0_checkIndex_df160_J3_checkIndex_8e157 rfl (by decide +kernel) rfl (by decide) (by decide) (Nat.le_of_ble_eq_true rfl) ⟨by omega, by omega⟩ rfl ?_
    refine V_pop C rfl dJ0_checkIndex_df160_8 ?_
    refine V_return C E dJ0_checkIndex_df160_9 (by omega) (by omega) ?_
    exact Dt_rfl
  · refine V_gets C dJ0_checkIndex_df160_2 e4 (by decide +kernel) ?_
    refine V_callSD (nA := 3) C dJ0_checkIndex_df160_5 (j_checkIndex C.gp hi hm (Or.inr ⟨_, rfl⟩)) gJ0_checkIndex_df160_J3_checkIndex_8e157 rfl (by decide +kernel) rfl (by decide) (by decide) (Nat.le_of_ble_eq_true rfl) ⟨by omega, by omega⟩ rfl ?_
    refine V_pop C rfl dJ0_checkIndex_df160_8 ?_
    refine V_return C E dJ0_checkIndex_df160_9 (by omega) (by omega) ?_
    exact Dt_rfl
theorem eRw_b (k j : Nat) : 0 ≤ (eRw k).getD j 0 ∧ (eRw k).getD j 0 < 128 := by
  have h : ∀ k, k < 8 → ∀ x ∈ eRw k, 0 ≤ x ∧ x < 128 := by decide
  have h2 : ∀ x ∈ eRw k, 0 ≤ x ∧ x < 128 := by
    by_cases hk : k < 8
    · exact h k hk
    · intro x hx
      have : eRw k = [] := by
        unfold eRw
        split <;> first | rfl | omega
      rw [this] at hx
      simp at hx
  by_cases hj : j < (eRw k).length
  · rw [List.getD_eq_getElem?_getD, List.getElem?_eq_getElem hj]
    exact h2 _ (List.getElem_mem hj)
  · rw [List.getD_eq_getElem?_getD, List.getElem?_eq_none (by omega)]
    decide
theorem char_id (m : Nat) (h : m < 128) : ((I32 (m : Int) &&& I32 255).toUInt32 % 65536).toInt32 = I32 (m : Int) ∧ narrow .char (.int (I32 (m : Int))) = .int (I32 (m : Int)) := by
  have h9 : ∀ m : Fin 128, ((I32 (m.val : Int) &&& I32 255).toUInt32 % 65536).toInt32 = I32 (m.val : Int) ∧ narrow .char (.int (I32 (m.val : Int))) = .int (I32 (m.val : Int)) := by decide +kernel
  exact h9 ⟨m, h⟩
set_option maxRecDepth 20000 in
theorem ggJ1_charAt_3b067_J0_checkIndex_df160 : GoodIn wsJ1_charAt_3b067 wsJ0_checkIndex_df160 := goodIn_r _ [4, 5, 6, 7, 8, 9] (by decide +kernel) (by decide +kernel)
set_option maxRecDepth 20000 in
theorem gJ1_charAt_3b067_J0_checkIndex_df160 : GoodIn wsJ1_charAt_3b067 (va_wsS RJ1 9 yJ0_checkIndex_df160 wsJ0_checkIndex_df160) := goodIn_app (goodIn_of _ (by decide +kernel)) ggJ1_charAt_3b067_J0_checkIndex_df160
theorem dJ1_charAt_3b067_0 : decode cJ1_charAt_3b067 0 = .ok (.iload_n 1, 1) := by decide +kernel
theorem dJ1_charAt_3b067_1 : decode cJ1_charAt_3b067 1 = .ok (.aload_n 0, 1) := by decide +kernel
theorem dJ1_charAt_3b067_2 : decode cJ1_charAt_3b067 2 = .ok (.arraylength, 1) := by decide +kernel
theorem dJ1_charAt_3b067_3 : decode cJ1_charAt_3b067 3 = .ok (.invokestatic 9, 3) := by decide +kernel
theorem dJ1_charAt_3b067_6 : decode cJ1_charAt_3b067 6 = .ok (.aload_n 0, 1) := by decide +kernel
theorem dJ1_charAt_3b067_7 : decode cJ1_charAt_3b067 7 = .ok (.iload_n 1, 1) := by decide +kernel
theorem dJ1_charAt_3b067_8 : decode cJ1_charAt_3b067 8 = .ok (.baload, 1) := by decide +kernel
theorem dJ1_charAt_3b067_9 : decode cJ1_charAt_3b067 9 = .ok (.sipush 255, 3) := by decide +kernel
theorem dJ1_charAt_3b067_12 : decode cJ1_charAt_3b067 12 = .ok (.iand, 1) := by decide +kernel
theorem dJ1_charAt_3b067_13 : decode cJ1_charAt_3b067 13 = .ok (.i2c, 1) := by decide +kernel
theorem dJ1_charAt_3b067_14 : decode cJ1_charAt_3b067 14 = .ok (.ireturn, 1) := by decide +kernel
theorem j_charAt1 (hG : GP G) (hE : GE G) {k : Nat} (hC : ∀ U, G.2.2.2.2 U → va_Z "java/lang/String" "COMPACT_STRINGS" "Z" (.int (I32 1)) (gA G) U U.heap ∧ StrAt (gA G) U k (G.2.2.1 (k + 8)) (G.2.2.1 (k + 16))) {j : Nat} (hj : j < (eRw k).length) : Ct G l yJ1_charAt_3b067 wsJ1_charAt_3b067 2 0 0 [.ref (G.2.2.1 (k + 16)), .int (I32 (j : Int))] S n mu la (Dt (some (.int (I32 ((eRw k).getD j 0)))) S n mu la) := by
  have bl := eRw_len k
  have bb := eRw_b k j
  obtain ⟨hc1, hc2⟩ := char_id ((eRw k).getD j 0).toNat (by omega)
  rw [Int.toNat_of_nonneg bb.1] at hc1 hc2
  refine Ct.ofV (cc := cJ1_charAt_3b067) (nL := 2) (ret := (some .char)) [some (.ref (G.2.2.1 (k + 16))), some (.int (I32 (j : Int)))] hG (by decide) rfl (Nat.le_of_ble_eq_true rfl) rfl ?_
  rintro X rfl rfl C hcl hsl E
  obtain ⟨e1, e2⟩ := hC _ C.pe.2.2
  refine V_iload_n C dJ1_charAt_3b067_0 rfl ?_
  refine V_aload_n C dJ1_charAt_3b067_1 rfl ?_
  refine V_tlen C dJ1_charAt_3b067_2 e2.2.2.2 ?_
  refine V_callSD (nA := 2) C dJ1_charAt_3b067_3 (j_checkIndex0 C.gp hE (by omega) (by omega)) gJ1_charAt_3b067_J0_checkIndex_df160 rfl (by decide +kernel) rfl (by decide) (by decide) (Nat.le_of_ble_eq_true rfl) ⟨by omega, by omega⟩ rfl ?_
  refine V_aload_n C dJ1_charAt_3b067_6 rfl ?_
  refine V_iload_n C dJ1_charAt_3b067_7 rfl ?_
  refine V_tb C dJ1_charAt_3b067_8 e2.2.2.2 (by omega) (by omega) ?_
  rw [Int.toNat_natCast]
  refine V_sipush C dJ1_charAt_3b067_9 (by decide +kernel) ?_
  refine V_iand C dJ1_charAt_3b067_12 ?_
  refine V_i2c C dJ1_charAt_3b067_13 hc1 ?_
  refine V_nreturn C E hc2 dJ1_charAt_3b067_14 (by omega) (by omega) ?_
  exact Dt_rfl
set_option maxRecDepth 20000 in
theorem ggJ0_charAt_5068e_J0_isLatin1_aae02 : GoodIn wsJ0_charAt_5068e wsJ0_isLatin1_aae02 := goodIn_r _ [6, 7, 8] (by decide +kernel) (by decide +kernel)
set_option maxRecDepth 20000 in
theorem gJ0_charAt_5068e_J0_isLatin1_aae02 : GoodIn wsJ0_charAt_5068e (wsV RJ0 492 RJ0 yJ0_isLatin1_aae02 wsJ0_isLatin1_aae02) := goodIn_app (goodIn_of _ (by decide +kernel)) ggJ0_charAt_5068e_J0_isLatin1_aae02
set_option maxRecDepth 20000 in
theorem ggJ0_charAt_5068e_J1_charAt_3b067 : GoodIn wsJ0_charAt_5068e wsJ1_charAt_3b067 := goodIn_r _ [12, 13, 14, 5, 15, 16, 17, 18, 19, 20] (by decide +kernel) (by decide +kernel)
set_option maxRecDepth 20000 in
theorem gJ0_charAt_5068e_J1_charAt_3b067 : GoodIn wsJ0_charAt_5068e (va_wsS RJ0 495 yJ1_charAt_3b067 wsJ1_charAt_3b067) := goodIn_app (goodIn_of _ (by decide +kernel)) ggJ0_charAt_5068e_J1_charAt_3b067
set_option maxRecDepth 20000 in
theorem ggJ0_charAt_5068e_J2_charAt_3b067 : GoodIn wsJ0_charAt_5068e wsJ2_charAt_3b067 := goodIn_r _ [24, 25, 26, 23, 27, 28, 29, 30, 31, 14, 5, 15, 16, 17, 18, 19, 20, 32, 33, 34, 35, 36, 37] (by decide +kernel) (by decide +kernel)
set_option maxRecDepth 20000 in
theorem gJ0_charAt_5068e_J2_charAt_3b067 : GoodIn wsJ0_charAt_5068e (va_wsS RJ0 498 yJ2_charAt_3b067 wsJ2_charAt_3b067) := goodIn_app (goodIn_of _ (by decide +kernel)) ggJ0_charAt_5068e_J2_charAt_3b067
theorem dJ0_charAt_5068e_0 : decode cJ0_charAt_5068e 0 = .ok (.aload_n 0, 1) := by decide +kernel
theorem dJ0_charAt_5068e_1 : decode cJ0_charAt_5068e 1 = .ok (.invokevirtual 492, 3) := by decide +kernel
theorem dJ0_charAt_5068e_4 : decode cJ0_charAt_5068e 4 = .ok (.ifCond .eq 12, 3) := by decide +kernel
theorem dJ0_charAt_5068e_7 : decode cJ0_charAt_5068e 7 = .ok (.aload_n 0, 1) := by decide +kernel
theorem dJ0_charAt_5068e_8 : decode cJ0_charAt_5068e 8 = .ok (.getfield 9, 3) := by decide +kernel
theorem dJ0_charAt_5068e_11 : decode cJ0_charAt_5068e 11 = .ok (.iload_n 1, 1) := by decide +kernel
theorem dJ0_charAt_5068e_12 : decode cJ0_charAt_5068e 12 = .ok (.invokestatic 495, 3) := by decide +kernel
theorem dJ0_charAt_5068e_15 : decode cJ0_charAt_5068e 15 = .ok (.ireturn, 1) := by decide +kernel
theorem dJ0_charAt_5068e_16 : decode cJ0_charAt_5068e 16 = .ok (.aload_n 0, 1) := by decide +kernel
theorem dJ0_charAt_5068e_17 : decode cJ0_charAt_5068e 17 = .ok (.getfield 9, 3) := by decide +kernel
theorem dJ0_charAt_5068e_20 : decode cJ0_charAt_5068e 20 = .ok (.iload_n 1, 1) := by decide +kernel
theorem dJ0_charAt_5068e_21 : decode cJ0_charAt_5068e 21 = .ok (.invokestatic 498, 3) := by decide +kernel
theorem dJ0_charAt_5068e_24 : decode cJ0_charAt_5068e 24 = .ok (.ireturn, 1) := by decide +kernel
theorem j_charAt (hG : GP G) (hE : GE G) {k : Nat} (hC : ∀ U, G.2.2.2.2 U → va_Z "java/lang/String" "COMPACT_STRINGS" "Z" (.int (I32 1)) (gA G) U U.heap ∧ StrAt (gA G) U k (G.2.2.1 (k + 8)) (G.2.2.1 (k + 16))) {j : Nat} (hj : j < (eRw k).length) : Ct G l yJ0_charAt_5068e wsJ0_charAt_5068e 3 0 0 [.ref (G.2.2.1 (k + 8)), .int (I32 (j : Int))] S n mu la (Dt (some (.int (I32 ((eRw k).getD j 0)))) S n mu la) := by
  have bb := eRw_b k j
  obtain ⟨hc1, hc2⟩ := char_id ((eRw k).getD j 0).toNat (by omega)
  rw [Int.toNat_of_nonneg bb.1] at hc1 hc2
  refine Ct.ofV (cc := cJ0_charAt_5068e) (nL := 2) (ret := (some .char)) [some (.ref (G.2.2.1 (k + 8))), some (.int (I32 (j : Int)))] hG (by decide) rfl (Nat.le_of_ble_eq_true rfl) rfl ?_
  rintro X rfl rfl C hcl hsl E
  obtain ⟨e1, e2⟩ := hC _ C.pe.2.2
  refine V_aload_n C dJ0_charAt_5068e_0 rfl ?_
  refine V_callO C dJ0_charAt_5068e_1 (j_isLatin1 C.gp hC) (okV C 0 gJ0_charAt_5068e_J0_isLatin1_aae02 rfl (by decide +kernel) (by decide) (by decide)) e2.1 rfl (Nat.le_of_ble_eq_true rfl) ⟨by omega, by omega⟩ rfl ?_
  refine V_if_eq C 16 dJ0_charAt_5068e_4 (by decide) (by omega) (fun z => ?_) (fun z => ?_)
  · exact absurd z (by decide)
  · refine V_aload_n C dJ0_charAt_5068e_7 rfl ?_
    refine V_getf C dJ0_charAt_5068e_8 e2.2.2.1 (by decide +kernel) ?_
    refine V_iload_n C dJ0_charAt_5068e_11 rfl ?_
    refine V_callSD (nA := 2) C dJ0_charAt_5068e_12 (j_charAt1 C.gp hE hC hj) gJ0_charAt_5068e_J1_charAt_3b067 rfl (by decide +kernel) rfl (by decide) (by decide) (Nat.le_of_ble_eq_true rfl) ⟨by omega, by omega⟩ rfl ?_
    refine V_nreturn C E hc2 dJ0_charAt_5068e_15 (by omega) (by omega) ?_
    exact Dt_rfl
theorem dJx29ce0_ordinal_8abf5_0 : decode cJx29ce0_ordinal_8abf5 0 = .ok (.aload_n 0, 1) := by decide +kernel
theorem dJx29ce0_ordinal_8abf5_1 : decode cJx29ce0_ordinal_8abf5 1 = .ok (.getfield 7, 3) := by decide +kernel
theorem dJx29ce0_ordinal_8abf5_4 : decode cJx29ce0_ordinal_8abf5 4 = .ok (.ireturn, 1) := by decide +kernel
theorem j_ordinal (hG : GP G) (hE : GE G) {k : Nat} (hk : k < 8) : Ct G l yJx29ce0_ordinal_8abf5 wsJx29ce0_ordinal_8abf5 0 0 0 [.ref (G.2.2.1 k)] S n mu la (Dt (some (.int (I32 (k : Int)))) S n mu la) := by
  refine Ct.ofV (cc := cJx29ce0_ordinal_8abf5) (nL := 1) (ret := (some .int)) [some (.ref (G.2.2.1 k))] hG (by decide) rfl (Nat.le_of_ble_eq_true rfl) rfl ?_
  rintro X rfl rfl C hcl hsl E
  have e := (hE _ C.pe.2.2).2.2.2.2 k hk
  refine V_aload_n C dJx29ce0_ordinal_8abf5_0 rfl ?_
  refine V_getf C dJx29ce0_ordinal_8abf5_1 e.2.2.1 (by decide +kernel) ?_
  refine V_ireturn C E dJx29ce0_ordinal_8abf5_4 (by omega) (by omega) ?_
  exact Dt_rfl
end JD
