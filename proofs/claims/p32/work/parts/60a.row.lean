/-! THE LAW OF p32: its row of signs. Calls of methods with many registers; small arithmetic -/
section V2
variable {X : Cx} {cc : ByteArray} {Ts : List Cond} {own : String} {ret : Option FieldType} {fr nL : Nat} {pc : Nat} {r : Rg} {st : List Value} {S S' : Sh} {n n' : Nat} {mu mu' : Mem} {la la' : Lam} {k sl : Nat} {o : Option Value}
theorem V_callS2 (C : Ok X cc Ts own ret fr nL) {index nA maxL fc mcc msc : Nat} {y : MethodName} {ws ws' : List Cond} {bytes : ByteArray} {rt : Option FieldType} {As rest : List Value} {Pc : Option Value → Sh → Nat → Mem → Lam → Prop}
    (hd : decode cc pc = .ok (.invokestatic index, 3)) (hM : Ct (xG X) (xL X) y ws fc mcc msc As S n mu la Pc) (hG : GoodIn Ts (va_wsS own index y ws)) (hw : ws = Cond.code y bytes maxL rt :: ws')
    (hy : y.cls ≠ "java/lang/invoke/MethodHandle" ∧ y.cls ≠ "java/lang/invoke/VarHandle" ∧ (parseMethodDescriptor y.desc).map (fun d => d.parameters.length) = some nA)
    (hn : As.length = nA) (hfr : fc + 2 ≤ fr) (hml : maxL ≤ 41) (hcat : (rest.map fun v => v.category).sum ≤ 8) (hf : k + mcc ≤ (xR X).cells ∧ sl + msc ≤ (xR X).slots) {st0 : List Value} (hst : st0 = psh As rest)
    (kk : ∀ (o : Option Value) (S' : Sh) (n' : Nat) (mu' : Mem) (la' : Lam), Pc o S' n' mu' la' → V X (pc + 3) r (o.toList ++ rest) S' n' mu' la' (k + mcc) (sl + msc)) : V X pc r st0 S n mu la k sl := by
  intro H locs ls hH hS hl
  refine V_ran C (va_runS ⟨C.1, C.2.1, C.2.2.1, C.own, C.ts⟩ hM (va_cwS nA C.ts hG hw rfl rfl hy ⟨by rw [C.frames]; show fc + 1 ≤ fr; omega, by rw [C.regs]; show 8 + (maxL + 11) + 30 * fc ≤ _; omega⟩)
    ⟨Pm_blind C.gp, V_pre C hH hS As⟩ rfl hn hl.1 (by rw [hst, psh_eq]) (cat_le hcat) hd hf) hS hl kk
theorem V_callS2D (C : Ok X cc Ts own ret fr nL) {index nA maxL fc : Nat} {y : MethodName} {ws ws' : List Cond} {bytes : ByteArray} {rt : Option FieldType} {As rest : List Value}
    (hd : decode cc pc = .ok (.invokestatic index, 3)) (hM : Ct (xG X) (xL X) y ws fc 0 0 As S n mu la (Dt o S' n' mu' la')) (hG : GoodIn Ts (va_wsS own index y ws)) (hw : ws = Cond.code y bytes maxL rt :: ws')
    (hy : y.cls ≠ "java/lang/invoke/MethodHandle" ∧ y.cls ≠ "java/lang/invoke/VarHandle" ∧ (parseMethodDescriptor y.desc).map (fun d => d.parameters.length) = some nA)
    (hn : As.length = nA) (hfr : fc + 2 ≤ fr) (hml : maxL ≤ 41) (hcat : (rest.map fun v => v.category).sum ≤ 8) (hf : k ≤ (xR X).cells ∧ sl ≤ (xR X).slots) {st0 : List Value} (hst : st0 = psh As rest)
    (kk : V X (pc + 3) r (oc o rest) S' n' mu' la' k sl) : V X pc r st0 S n mu la k sl := V_callS2 C hd hM hG hw hy hn hfr hml hcat hf hst (V_toD kk)
theorem V_ixor (C : Ok X cc Ts own ret fr nL) {x y : Int32} (hd : decode cc pc = .ok (.ixor, 1))
    (kk : V X (pc + 1) r (.int (x ^^^ y) :: st) S n mu la k sl) : V X pc r (.int y :: .int x :: st) S n mu la k sl := fun H locs ls hH hS hl => lv_ixor C.1 C.2.1 hd (kk H locs ls hH hS hl)
theorem V_ishr (C : Ok X cc Ts own ret fr nL) {x y : Int32} (hd : decode cc pc = .ok (.ishr, 1))
    (kk : ∀ v : Int32, V X (pc + 1) r (.int v :: st) S n mu la k sl) : V X pc r (.int y :: .int x :: st) S n mu la k sl := fun H locs ls hH hS hl => lv_ishr C.1 C.2.1 hd (kk _ H locs ls hH hS hl)
end V2
def sgD (v : Int) : Int := if v = 4 then -1 else if 1 < v then 1 else 0
/-- from the sign at o the walk forward comes to its end at e -/
def EndP (Q : Int → Int) (o e : Int) : Prop := (0 ≤ o ∧ o < e ∧ e < 16) ∧ ∃ D : Int → Int, D o = 1 ∧ (∀ i : Int, o ≤ i → i < e → 0 < D i ∧ D (i + 1) = D i + sgD (Q (3 * (i + 1)))) ∧ D e ≤ 0 ∧ ∀ i : Int, o ≤ i → i ≤ e → -100 ≤ D i ∧ D i ≤ 100
/-- from the sign at i the walk backward comes to its end at j -/
def UpP (Q : Int → Int) (i j : Int) : Prop := (-1 ≤ j ∧ j < i ∧ i < 16) ∧ ∃ D : Int → Int, D i = 1 ∧ (∀ x : Int, j < x → x ≤ i → 0 < D x ∧ D (x - 1) = D x - (if x - 1 < 0 then 0 else sgD (Q (3 * (x - 1))))) ∧ (j = -1 ∨ D j ≤ 0) ∧ ∀ x : Int, j ≤ x → x ≤ i → -100 ≤ D x ∧ D x ≤ 100
def BehP (Q : Int → Int) (i j : Int) : Prop := (0 ≤ i ∧ i < 16) ∧ ((Q (3 * i) = 1 ∧ j = i + 1) ∨ (Q (3 * i) ≠ 1 ∧ EndP Q i (j - 1)))
/-- the children of the split at o lie at p 0 .. p (N - 1), and its end at p N -/
def KidP (Q : Int → Int) (o : Int) (N : Nat) (p : Int → Int) : Prop := p 0 = o + 1 ∧ (∀ k : Int, 0 ≤ k → k ≤ N → 0 ≤ p k ∧ p k < 16) ∧ (∀ k : Int, 0 ≤ k → k < N → Q (3 * p k) ≠ 4 ∧ BehP Q (p k) (p (k + 1)))
section LR1
variable {G : Gx} {l : Launch} {S : Sh} {n : Nat} {mu : Mem} {la : Lam} {a : Nat}
theorem dL_end_0 : decode cL_end 0 = .ok (.iconst 1, 1) := by decide +kernel
theorem dL_end_1 : decode cL_end 1 = .ok (.istore_n 2, 1) := by decide +kernel
theorem dL_end_2 : decode cL_end 2 = .ok (.iload_n 1, 1) := by decide +kernel
theorem dL_end_3 : decode cL_end 3 = .ok (.istore_n 3, 1) := by decide +kernel
theorem dL_end_4 : decode cL_end 4 = .ok (.iload_n 2, 1) := by decide +kernel
theorem dL_end_5 : decode cL_end 5 = .ok (.ifCond .le 39, 3) := by decide +kernel
theorem dL_end_8 : decode cL_end 8 = .ok (.iinc 3 1, 3) := by decide +kernel
theorem dL_end_11 : decode cL_end 11 = .ok (.iload_n 2, 1) := by decide +kernel
theorem dL_end_12 : decode cL_end 12 = .ok (.aload_n 0, 1) := by decide +kernel
theorem dL_end_13 : decode cL_end 13 = .ok (.iconst 3, 1) := by decide +kernel
theorem dL_end_14 : decode cL_end 14 = .ok (.iload_n 3, 1) := by decide +kernel
theorem dL_end_15 : decode cL_end 15 = .ok (.imul, 1) := by decide +kernel
theorem dL_end_16 : decode cL_end 16 = .ok (.iaload, 1) := by decide +kernel
theorem dL_end_17 : decode cL_end 17 = .ok (.iconst 4, 1) := by decide +kernel
theorem dL_end_18 : decode cL_end 18 = .ok (.if_icmp .ne 7, 3) := by decide +kernel
theorem dL_end_21 : decode cL_end 21 = .ok (.iconst (-1), 1) := by decide +kernel
theorem dL_end_22 : decode cL_end 22 = .ok (.goto 17, 3) := by decide +kernel
theorem dL_end_25 : decode cL_end 25 = .ok (.aload_n 0, 1) := by decide +kernel
theorem dL_end_26 : decode cL_end 26 = .ok (.iconst 3, 1) := by decide +kernel
theorem dL_end_27 : decode cL_end 27 = .ok (.iload_n 3, 1) := by decide +kernel
theorem dL_end_28 : decode cL_end 28 = .ok (.imul, 1) := by decide +kernel
theorem dL_end_29 : decode cL_end 29 = .ok (.iaload, 1) := by decide +kernel
theorem dL_end_30 : decode cL_end 30 = .ok (.iconst 1, 1) := by decide +kernel
theorem dL_end_31 : decode cL_end 31 = .ok (.if_icmp .le 7, 3) := by decide +kernel
theorem dL_end_34 : decode cL_end 34 = .ok (.iconst 1, 1) := by decide +kernel
theorem dL_end_35 : decode cL_end 35 = .ok (.goto 4, 3) := by decide +kernel
theorem dL_end_38 : decode cL_end 38 = .ok (.iconst 0, 1) := by decide +kernel
theorem dL_end_39 : decode cL_end 39 = .ok (.iadd, 1) := by decide +kernel
theorem dL_end_40 : decode cL_end 40 = .ok (.istore_n 2, 1) := by decide +kernel
theorem dL_end_41 : decode cL_end 41 = .ok (.goto (-37), 3) := by decide +kernel
theorem dL_end_44 : decode cL_end 44 = .ok (.iload_n 3, 1) := by decide +kernel
theorem dL_end_45 : decode cL_end 45 = .ok (.ireturn, 1) := by decide +kernel
theorem l_end (hG : GP G) (hQ : hasS S a (.inl (0, 48))) (hR : R32 mu) {o e : Int} (h : EndP (mu a) o e) :
    Ct G l yL_end wsL_end 0 0 0 [.ref a, .int (I32 o)] S n mu la (Dt (some (.int (I32 e))) S n mu la) := by
  obtain ⟨ho, D, h0, hs, he, hb⟩ := h
  refine Ct.ofV (cc := cL_end) (nL := 4) (ret := (some .int)) [some (.ref a), some (.int (I32 o)), none, none] hG (by decide) rfl (Nat.le_of_ble_eq_true rfl) rfl ?_
  rintro X rfl rfl C hcl hsl E
  have loop : ∀ (m : Nat) (i : Int), o ≤ i → i + m = e → V X 4 [some (.ref a), some (.int (I32 o)), some (.int (I32 (D i))), some (.int (I32 i))] [] S n mu la 0 0 := by
    intro m
    induction m with
    | zero =>
      intro i h1 h2
      have e1 : i = e := by omega
      subst e1
      have b := hb i (by omega) (by omega)
      refine V_iload_n C dL_end_4 rfl ?_
      refine V_if_le C 44 dL_end_5 (by decide) (by omega) (fun c => ?_) (fun c => ?_)
      · refine V_iload_n C dL_end_44 rfl ?_
        refine V_ireturn C E dL_end_45 (by omega) (by omega) ?_
        exact Dt_rfl
      · exact absurd c (by omega)
    | succ m ih =>
      intro i h1 h2
      have b := hb i (by omega) (by omega)
      have s := hs i (by omega) (by omega)
      have b1 := hR a (3 * (i + 1))
      have s2 := s.2
      unfold sgD at s2
      have ih := ih (i + 1) (by omega) (by omega)
      refine V_iload_n C dL_end_4 rfl ?_
      refine V_if_le C 44 dL_end_5 (by decide) (by omega) (fun c => ?_) (fun c => ?_)
      · exact absurd c (by omega)
      · refine V_iinc C dL_end_8 rfl rfl (by decide) ?_
        refine V_iload_n C dL_end_11 rfl ?_
        refine V_aload_n C dL_end_12 rfl ?_
        refine V_iconst C dL_end_13 ?_
        refine V_iload_n C dL_end_14 rfl ?_
        refine V_imul C dL_end_15 ?_
        refine V_iald C dL_end_16 hQ (by first | assumption | decide) (by omega) ?_
        refine V_iconst C dL_end_17 ?_
        refine V_icmp_ne C 25 dL_end_18 (by decide) (by omega) (by omega) (fun c1 => ?_) (fun c1 => ?_)
        · refine V_aload_n C dL_end_25 rfl ?_
          refine V_iconst C dL_end_26 ?_
          refine V_iload_n C dL_end_27 rfl ?_
          refine V_imul C dL_end_28 ?_
          refine V_iald C dL_end_29 hQ (by first | assumption | decide) (by omega) ?_
          refine V_iconst C dL_end_30 ?_
          refine V_icmp_le C 38 dL_end_31 (by decide) (by omega) (by omega) (fun c2 => ?_) (fun c2 => ?_)
          · rw [if_neg c1, if_neg (by omega)] at s2
            rw [s2] at ih
            refine V_iconst C dL_end_38 ?_
            refine V_iadd C dL_end_39 ?_
            refine V_istore_n C dL_end_40 rfl (by decide) ?_
            refine V_goto C 4 dL_end_41 (by decide) ?_
            exact ih
          · rw [if_neg c1, if_pos (by omega)] at s2
            rw [s2] at ih
            refine V_iconst C dL_end_34 ?_
            refine V_goto C 39 dL_end_35 (by decide) ?_
            refine V_iadd C dL_end_39 ?_
            refine V_istore_n C dL_end_40 rfl (by decide) ?_
            refine V_goto C 4 dL_end_41 (by decide) ?_
            exact ih
        · rw [if_pos c1] at s2
          rw [s2] at ih
          refine V_iconst C dL_end_21 ?_
          refine V_goto C 39 dL_end_22 (by decide) ?_
          refine V_iadd C dL_end_39 ?_
          refine V_istore_n C dL_end_40 rfl (by decide) ?_
          refine V_goto C 4 dL_end_41 (by decide) ?_
          exact ih
  have h9 := loop (e - o).toNat o (by omega) (by omega)
  rw [h0] at h9
  refine V_iconst C dL_end_0 ?_
  refine V_istore_n C dL_end_1 rfl (by decide) ?_
  refine V_iload_n C dL_end_2 rfl ?_
  refine V_istore_n C dL_end_3 rfl (by decide) ?_
  exact h9
set_option maxRecDepth 20000 in
theorem ggL_behind_L_end : GoodIn wsL_behind wsL_end := goodIn_r _ [4] (by decide +kernel) (by decide +kernel)
set_option maxRecDepth 20000 in
theorem gL_behind_L_end : GoodIn wsL_behind (va_wsS RL 9 yL_end wsL_end) := goodIn_app (goodIn_of _ (by decide +kernel)) ggL_behind_L_end
theorem dL_behind_0 : decode cL_behind 0 = .ok (.aload_n 0, 1) := by decide +kernel
theorem dL_behind_1 : decode cL_behind 1 = .ok (.iconst 3, 1) := by decide +kernel
theorem dL_behind_2 : decode cL_behind 2 = .ok (.iload_n 1, 1) := by decide +kernel
theorem dL_behind_3 : decode cL_behind 3 = .ok (.imul, 1) := by decide +kernel
theorem dL_behind_4 : decode cL_behind 4 = .ok (.iaload, 1) := by decide +kernel
theorem dL_behind_5 : decode cL_behind 5 = .ok (.iconst 1, 1) := by decide +kernel
theorem dL_behind_6 : decode cL_behind 6 = .ok (.if_icmp .ne 9, 3) := by decide +kernel
theorem dL_behind_9 : decode cL_behind 9 = .ok (.iload_n 1, 1) := by decide +kernel
theorem dL_behind_10 : decode cL_behind 10 = .ok (.iconst 1, 1) := by decide +kernel
theorem dL_behind_11 : decode cL_behind 11 = .ok (.iadd, 1) := by decide +kernel
theorem dL_behind_12 : decode cL_behind 12 = .ok (.goto 10, 3) := by decide +kernel
theorem dL_behind_15 : decode cL_behind 15 = .ok (.aload_n 0, 1) := by decide +kernel
theorem dL_behind_16 : decode cL_behind 16 = .ok (.iload_n 1, 1) := by decide +kernel
theorem dL_behind_17 : decode cL_behind 17 = .ok (.invokestatic 9, 3) := by decide +kernel
theorem dL_behind_20 : decode cL_behind 20 = .ok (.iconst 1, 1) := by decide +kernel
theorem dL_behind_21 : decode cL_behind 21 = .ok (.iadd, 1) := by decide +kernel
theorem dL_behind_22 : decode cL_behind 22 = .ok (.ireturn, 1) := by decide +kernel
theorem l_behind (hG : GP G) (hQ : hasS S a (.inl (0, 48))) (hR : R32 mu) {i j : Int} (h : BehP (mu a) i j) :
    Ct G l yL_behind wsL_behind 1 0 0 [.ref a, .int (I32 i)] S n mu la (Dt (some (.int (I32 j))) S n mu la) := by
  obtain ⟨hi, h⟩ := h
  have b1 := hR a (3 * i)
  refine Ct.ofV (cc := cL_behind) (nL := 2) (ret := (some .int)) [some (.ref a), some (.int (I32 i))] hG (by decide) rfl (Nat.le_of_ble_eq_true rfl) rfl ?_
  rintro X rfl rfl C hcl hsl E
  refine V_aload_n C dL_behind_0 rfl ?_
  refine V_iconst C dL_behind_1 ?_
  refine V_iload_n C dL_behind_2 rfl ?_
  refine V_imul C dL_behind_3 ?_
  refine V_iald C dL_behind_4 hQ (by first | assumption | decide) (by omega) ?_
  refine V_iconst C dL_behind_5 ?_
  refine V_icmp_ne C 15 dL_behind_6 (by decide) (by omega) (by omega) (fun c => ?_) (fun c => ?_)
  · rcases h with h | h
    · exact absurd h.1 c
    · refine V_aload_n C dL_behind_15 rfl ?_
      refine V_iload_n C dL_behind_16 rfl ?_
      refine V_callSD (nA := 2) C dL_behind_17 (l_end C.gp hQ hR h.2) gL_behind_L_end rfl (by decide +kernel) rfl (by decide) (by decide) (Nat.le_of_ble_eq_true rfl) ⟨by omega, by omega⟩ rfl ?_
      refine V_iconst C dL_behind_20 ?_
      refine V_iadd C dL_behind_21 ?_
      rw [show j - 1 + 1 = j by omega]
      refine V_ireturn C E dL_behind_22 (by omega) (by omega) ?_
      exact Dt_rfl
  · rcases h with h | h
    · have e := h.2
      subst e
      refine V_iload_n C dL_behind_9 rfl ?_
      refine V_iconst C dL_behind_10 ?_
      refine V_iadd C dL_behind_11 ?_
      refine V_goto C 22 dL_behind_12 (by decide) ?_
      refine V_ireturn C E dL_behind_22 (by omega) (by omega) ?_
      exact Dt_rfl
    · exact absurd c h.1
theorem dL_up_0 : decode cL_up 0 = .ok (.iconst 1, 1) := by decide +kernel
theorem dL_up_1 : decode cL_up 1 = .ok (.istore_n 2, 1) := by decide +kernel
theorem dL_up_2 : decode cL_up 2 = .ok (.iload_n 1, 1) := by decide +kernel
theorem dL_up_3 : decode cL_up 3 = .ok (.istore_n 3, 1) := by decide +kernel
theorem dL_up_4 : decode cL_up 4 = .ok (.iload_n 2, 1) := by decide +kernel
theorem dL_up_5 : decode cL_up 5 = .ok (.ifCond .le 51, 3) := by decide +kernel
theorem dL_up_8 : decode cL_up 8 = .ok (.iload_n 3, 1) := by decide +kernel
theorem dL_up_9 : decode cL_up 9 = .ok (.ifCond .lt 47, 3) := by decide +kernel
theorem dL_up_12 : decode cL_up 12 = .ok (.iinc 3 (-1), 3) := by decide +kernel
theorem dL_up_15 : decode cL_up 15 = .ok (.iload_n 2, 1) := by decide +kernel
theorem dL_up_16 : decode cL_up 16 = .ok (.iload_n 3, 1) := by decide +kernel
theorem dL_up_17 : decode cL_up 17 = .ok (.ifCond .ge 7, 3) := by decide +kernel
theorem dL_up_20 : decode cL_up 20 = .ok (.iconst 0, 1) := by decide +kernel
theorem dL_up_21 : decode cL_up 21 = .ok (.goto 30, 3) := by decide +kernel
theorem dL_up_24 : decode cL_up 24 = .ok (.aload_n 0, 1) := by decide +kernel
theorem dL_up_25 : decode cL_up 25 = .ok (.iconst 3, 1) := by decide +kernel
theorem dL_up_26 : decode cL_up 26 = .ok (.iload_n 3, 1) := by decide +kernel
theorem dL_up_27 : decode cL_up 27 = .ok (.imul, 1) := by decide +kernel
theorem dL_up_28 : decode cL_up 28 = .ok (.iaload, 1) := by decide +kernel
theorem dL_up_29 : decode cL_up 29 = .ok (.iconst 4, 1) := by decide +kernel
theorem dL_up_30 : decode cL_up 30 = .ok (.if_icmp .ne 7, 3) := by decide +kernel
theorem dL_up_33 : decode cL_up 33 = .ok (.iconst 1, 1) := by decide +kernel
theorem dL_up_34 : decode cL_up 34 = .ok (.goto 17, 3) := by decide +kernel
theorem dL_up_37 : decode cL_up 37 = .ok (.aload_n 0, 1) := by decide +kernel
theorem dL_up_38 : decode cL_up 38 = .ok (.iconst 3, 1) := by decide +kernel
theorem dL_up_39 : decode cL_up 39 = .ok (.iload_n 3, 1) := by decide +kernel
theorem dL_up_40 : decode cL_up 40 = .ok (.imul, 1) := by decide +kernel
theorem dL_up_41 : decode cL_up 41 = .ok (.iaload, 1) := by decide +kernel
theorem dL_up_42 : decode cL_up 42 = .ok (.iconst 1, 1) := by decide +kernel
theorem dL_up_43 : decode cL_up 43 = .ok (.if_icmp .le 7, 3) := by decide +kernel
theorem dL_up_46 : decode cL_up 46 = .ok (.iconst (-1), 1) := by decide +kernel
theorem dL_up_47 : decode cL_up 47 = .ok (.goto 4, 3) := by decide +kernel
theorem dL_up_50 : decode cL_up 50 = .ok (.iconst 0, 1) := by decide +kernel
theorem dL_up_51 : decode cL_up 51 = .ok (.iadd, 1) := by decide +kernel
theorem dL_up_52 : decode cL_up 52 = .ok (.istore_n 2, 1) := by decide +kernel
theorem dL_up_53 : decode cL_up 53 = .ok (.goto (-49), 3) := by decide +kernel
theorem dL_up_56 : decode cL_up 56 = .ok (.iload_n 3, 1) := by decide +kernel
theorem dL_up_57 : decode cL_up 57 = .ok (.ireturn, 1) := by decide +kernel
theorem l_up (hG : GP G) (hQ : hasS S a (.inl (0, 48))) (hR : R32 mu) {i j : Int} (h : UpP (mu a) i j) :
    Ct G l yL_up wsL_up 0 0 0 [.ref a, .int (I32 i)] S n mu la (Dt (some (.int (I32 j))) S n mu la) := by
  obtain ⟨ho, D, h0, hs, he, hb⟩ := h
  refine Ct.ofV (cc := cL_up) (nL := 4) (ret := (some .int)) [some (.ref a), some (.int (I32 i)), none, none] hG (by decide) rfl (Nat.le_of_ble_eq_true rfl) rfl ?_
  rintro X rfl rfl C hcl hsl E
  have loop : ∀ (m : Nat) (x : Int), x ≤ i → j + m = x → V X 4 [some (.ref a), some (.int (I32 i)), some (.int (I32 (D x))), some (.int (I32 x))] [] S n mu la 0 0 := by
    intro m
    induction m with
    | zero =>
      intro x h1 h2
      have e1 : x = j := by omega
      subst e1
      have b := hb x (by omega) (by omega)
      refine V_iload_n C dL_up_4 rfl ?_
      refine V_if_le C 56 dL_up_5 (by decide) (by omega) (fun c => ?_) (fun c => ?_)
      · refine V_iload_n C dL_up_56 rfl ?_
        refine V_ireturn C E dL_up_57 (by omega) (by omega) ?_
        exact Dt_rfl
      · refine V_iload_n C dL_up_8 rfl ?_
        refine V_if_lt C 56 dL_up_9 (by decide) (by omega) (fun c1 => ?_) (fun c1 => ?_)
        · refine V_iload_n C dL_up_56 rfl ?_
          refine V_ireturn C E dL_up_57 (by omega) (by omega) ?_
          exact Dt_rfl
        · exact absurd c1 (by omega)
    | succ m ih =>
      intro x h1 h2
      have b := hb x (by omega) (by omega)
      have s := hs x (by omega) (by omega)
      have b1 := hR a (3 * (x - 1))
      have s2 := s.2
      have ih := ih (x - 1) (by omega) (by omega)
      refine V_iload_n C dL_up_4 rfl ?_
      refine V_if_le C 56 dL_up_5 (by decide) (by omega) (fun c => ?_) (fun c => ?_)
      · exact absurd c (by omega)
      · refine V_iload_n C dL_up_8 rfl ?_
        refine V_if_lt C 56 dL_up_9 (by decide) (by omega) (fun c0 => ?_) (fun c0 => ?_)
        · exact absurd c0 (by omega)
        · refine V_iinc C dL_up_12 rfl rfl (by decide) ?_
          rw [show x + -1 = x - 1 by omega]
          refine V_iload_n C dL_up_15 rfl ?_
          refine V_iload_n C dL_up_16 rfl ?_
          refine V_if_ge C 24 dL_up_17 (by decide) (by omega) (fun c1 => ?_) (fun c1 => ?_)
          · rw [if_neg (by omega)] at s2
            unfold sgD at s2
            refine V_aload_n C dL_up_24 rfl ?_
            refine V_iconst C dL_up_25 ?_
            refine V_iload_n C dL_up_26 rfl ?_
            refine V_imul C dL_up_27 ?_
            refine V_iald C dL_up_28 hQ (by first | assumption | decide) (by omega) ?_
            refine V_iconst C dL_up_29 ?_
            refine V_icmp_ne C 37 dL_up_30 (by decide) (by omega) (by omega) (fun c2 => ?_) (fun c2 => ?_)
            · refine V_aload_n C dL_up_37 rfl ?_
              refine V_iconst C dL_up_38 ?_
              refine V_iload_n C dL_up_39 rfl ?_
              refine V_imul C dL_up_40 ?_
              refine V_iald C dL_up_41 hQ (by first | assumption | decide) (by omega) ?_
              refine V_iconst C dL_up_42 ?_
              refine V_icmp_le C 50 dL_up_43 (by decide) (by omega) (by omega) (fun c3 => ?_) (fun c3 => ?_)
              · rw [if_neg c2, if_neg (by omega)] at s2
                refine V_iconst C dL_up_50 ?_
                refine V_iadd C dL_up_51 ?_
                rw [show D x + 0 = D (x - 1) by omega]
                refine V_istore_n C dL_up_52 rfl (by decide) ?_
                refine V_goto C 4 dL_up_53 (by decide) ?_
                exact ih
              · rw [if_neg c2, if_pos (by omega)] at s2
                refine V_iconst C dL_up_46 ?_
                refine V_goto C 51 dL_up_47 (by decide) ?_
                refine V_iadd C dL_up_51 ?_
                rw [show D x + -1 = D (x - 1) by omega]
                refine V_istore_n C dL_up_52 rfl (by decide) ?_
                refine V_goto C 4 dL_up_53 (by decide) ?_
                exact ih
            · rw [if_pos c2] at s2
              refine V_iconst C dL_up_33 ?_
              refine V_goto C 51 dL_up_34 (by decide) ?_
              refine V_iadd C dL_up_51 ?_
              rw [show D x + 1 = D (x - 1) by omega]
              refine V_istore_n C dL_up_52 rfl (by decide) ?_
              refine V_goto C 4 dL_up_53 (by decide) ?_
              exact ih
          · rw [if_pos (by omega)] at s2
            refine V_iconst C dL_up_20 ?_
            refine V_goto C 51 dL_up_21 (by decide) ?_
            refine V_iadd C dL_up_51 ?_
            rw [show D x + 0 = D (x - 1) by omega]
            refine V_istore_n C dL_up_52 rfl (by decide) ?_
            refine V_goto C 4 dL_up_53 (by decide) ?_
            exact ih
  have h9 := loop (i - j).toNat i (by omega) (by omega)
  rw [h0] at h9
  refine V_iconst C dL_up_0 ?_
  refine V_istore_n C dL_up_1 rfl (by decide) ?_
  refine V_iload_n C dL_up_2 rfl ?_
  refine V_istore_n C dL_up_3 rfl (by decide) ?_
  exact h9
set_option maxRecDepth 20000 in
theorem ggL_kids_L_behind : GoodIn wsL_kids wsL_behind := goodIn_r _ [4, 5, 6, 3, 7] (by decide +kernel) (by decide +kernel)
set_option maxRecDepth 20000 in
theorem gL_kids_L_behind : GoodIn wsL_kids (va_wsS RL 15 yL_behind wsL_behind) := goodIn_app (goodIn_of _ (by decide +kernel)) ggL_kids_L_behind
theorem dL_kids_0 : decode cL_kids 0 = .ok (.iconst 0, 1) := by decide +kernel
theorem dL_kids_1 : decode cL_kids 1 = .ok (.istore_n 2, 1) := by decide +kernel
theorem dL_kids_2 : decode cL_kids 2 = .ok (.iload_n 1, 1) := by decide +kernel
theorem dL_kids_3 : decode cL_kids 3 = .ok (.iconst 1, 1) := by decide +kernel
theorem dL_kids_4 : decode cL_kids 4 = .ok (.iadd, 1) := by decide +kernel
theorem dL_kids_5 : decode cL_kids 5 = .ok (.istore_n 3, 1) := by decide +kernel
theorem dL_kids_6 : decode cL_kids 6 = .ok (.aload_n 0, 1) := by decide +kernel
theorem dL_kids_7 : decode cL_kids 7 = .ok (.iconst 3, 1) := by decide +kernel
theorem dL_kids_8 : decode cL_kids 8 = .ok (.iload_n 3, 1) := by decide +kernel
theorem dL_kids_9 : decode cL_kids 9 = .ok (.imul, 1) := by decide +kernel
theorem dL_kids_10 : decode cL_kids 10 = .ok (.iaload, 1) := by decide +kernel
theorem dL_kids_11 : decode cL_kids 11 = .ok (.iconst 4, 1) := by decide +kernel
theorem dL_kids_12 : decode cL_kids 12 = .ok (.if_icmp .eq 15, 3) := by decide +kernel
theorem dL_kids_15 : decode cL_kids 15 = .ok (.iinc 2 1, 3) := by decide +kernel
theorem dL_kids_18 : decode cL_kids 18 = .ok (.aload_n 0, 1) := by decide +kernel
theorem dL_kids_19 : decode cL_kids 19 = .ok (.iload_n 3, 1) := by decide +kernel
theorem dL_kids_20 : decode cL_kids 20 = .ok (.invokestatic 15, 3) := by decide +kernel
theorem dL_kids_23 : decode cL_kids 23 = .ok (.istore_n 3, 1) := by decide +kernel
theorem dL_kids_24 : decode cL_kids 24 = .ok (.goto (-18), 3) := by decide +kernel
theorem dL_kids_27 : decode cL_kids 27 = .ok (.iload_n 2, 1) := by decide +kernel
theorem dL_kids_28 : decode cL_kids 28 = .ok (.ireturn, 1) := by decide +kernel
theorem l_kids (hG : GP G) (hQ : hasS S a (.inl (0, 48))) (hR : R32 mu) {o : Int} {N : Nat} {p : Int → Int} (ho : 0 ≤ o ∧ o < 16) (h : KidP (mu a) o N p) (h4 : mu a (3 * p N) = 4) :
    Ct G l yL_kids wsL_kids 2 0 0 [.ref a, .int (I32 o)] S n mu la (Dt (some (.int (I32 N))) S n mu la) := by
  obtain ⟨h0, hb, hs⟩ := h
  refine Ct.ofV (cc := cL_kids) (nL := 4) (ret := (some .int)) [some (.ref a), some (.int (I32 o)), none, none] hG (by decide) rfl (Nat.le_of_ble_eq_true rfl) rfl ?_
  rintro X rfl rfl C hcl hsl E
  have loop : ∀ (m : Nat) (k : Int), 0 ≤ k → k + m = N → V X 6 [some (.ref a), some (.int (I32 o)), some (.int (I32 k)), some (.int (I32 (p k)))] [] S n mu la 0 0 := by
    intro m
    induction m with
    | zero =>
      intro k h1 h2
      have e1 : k = N := by omega
      subst e1
      have b := hb N (by omega) (by omega)
      have b1 := hR a (3 * p N)
      refine V_aload_n C dL_kids_6 rfl ?_
      refine V_iconst C dL_kids_7 ?_
      refine V_iload_n C dL_kids_8 rfl ?_
      refine V_imul C dL_kids_9 ?_
      refine V_iald C dL_kids_10 hQ (by first | assumption | decide) (by omega) ?_
      refine V_iconst C dL_kids_11 ?_
      refine V_icmp_eq C 27 dL_kids_12 (by decide) (by omega) (by omega) (fun c => ?_) (fun c => ?_)
      · refine V_iload_n C dL_kids_27 rfl ?_
        refine V_ireturn C E dL_kids_28 (by omega) (by omega) ?_
        exact Dt_rfl
      · exact absurd h4 c
    | succ m ih =>
      intro k h1 h2
      have b := hb k (by omega) (by omega)
      have b1 := hR a (3 * p k)
      have s := hs k (by omega) (by omega)
      have ih := ih (k + 1) (by omega) (by omega)
      refine V_aload_n C dL_kids_6 rfl ?_
      refine V_iconst C dL_kids_7 ?_
      refine V_iload_n C dL_kids_8 rfl ?_
      refine V_imul C dL_kids_9 ?_
      refine V_iald C dL_kids_10 hQ (by first | assumption | decide) (by omega) ?_
      refine V_iconst C dL_kids_11 ?_
      refine V_icmp_eq C 27 dL_kids_12 (by decide) (by omega) (by omega) (fun c => ?_) (fun c => ?_)
      · exact absurd c s.1
      · refine V_iinc C dL_kids_15 rfl rfl (by decide) ?_
        refine V_aload_n C dL_kids_18 rfl ?_
        refine V_iload_n C dL_kids_19 rfl ?_
        refine V_callSD (nA := 2) C dL_kids_20 (l_behind C.gp hQ hR s.2) gL_kids_L_behind rfl (by decide +kernel) rfl (by decide) (by decide) (Nat.le_of_ble_eq_true rfl) ⟨by omega, by omega⟩ rfl ?_
        refine V_istore_n C dL_kids_23 rfl (by decide) ?_
        refine V_goto C 6 dL_kids_24 (by decide) ?_
        exact ih
  have h9 := loop N 0 (by omega) (by omega)
  rw [h0] at h9
  refine V_iconst C dL_kids_0 ?_
  refine V_istore_n C dL_kids_1 rfl (by decide) ?_
  refine V_iload_n C dL_kids_2 rfl ?_
  refine V_iconst C dL_kids_3 ?_
  refine V_iadd C dL_kids_4 ?_
  refine V_istore_n C dL_kids_5 rfl (by decide) ?_
  exact h9
set_option maxRecDepth 20000 in
theorem ggL_kid_L_behind : GoodIn wsL_kid wsL_behind := goodIn_r _ [4, 5, 6, 3, 7] (by decide +kernel) (by decide +kernel)
set_option maxRecDepth 20000 in
theorem gL_kid_L_behind : GoodIn wsL_kid (va_wsS RL 15 yL_behind wsL_behind) := goodIn_app (goodIn_of _ (by decide +kernel)) ggL_kid_L_behind
theorem dL_kid_0 : decode cL_kid 0 = .ok (.iload_n 1, 1) := by decide +kernel
theorem dL_kid_1 : decode cL_kid 1 = .ok (.iconst 1, 1) := by decide +kernel
theorem dL_kid_2 : decode cL_kid 2 = .ok (.iadd, 1) := by decide +kernel
theorem dL_kid_3 : decode cL_kid 3 = .ok (.istore_n 3, 1) := by decide +kernel
theorem dL_kid_4 : decode cL_kid 4 = .ok (.iconst 0, 1) := by decide +kernel
theorem dL_kid_5 : decode cL_kid 5 = .ok (.istore 4, 2) := by decide +kernel
theorem dL_kid_7 : decode cL_kid 7 = .ok (.iload 4, 2) := by decide +kernel
theorem dL_kid_9 : decode cL_kid 9 = .ok (.iload_n 2, 1) := by decide +kernel
theorem dL_kid_10 : decode cL_kid 10 = .ok (.if_icmp .ge 15, 3) := by decide +kernel
theorem dL_kid_13 : decode cL_kid 13 = .ok (.aload_n 0, 1) := by decide +kernel
theorem dL_kid_14 : decode cL_kid 14 = .ok (.iload_n 3, 1) := by decide +kernel
theorem dL_kid_15 : decode cL_kid 15 = .ok (.invokestatic 15, 3) := by decide +kernel
theorem dL_kid_18 : decode cL_kid 18 = .ok (.istore_n 3, 1) := by decide +kernel
theorem dL_kid_19 : decode cL_kid 19 = .ok (.iinc 4 1, 3) := by decide +kernel
theorem dL_kid_22 : decode cL_kid 22 = .ok (.goto (-15), 3) := by decide +kernel
theorem dL_kid_25 : decode cL_kid 25 = .ok (.iload_n 3, 1) := by decide +kernel
theorem dL_kid_26 : decode cL_kid 26 = .ok (.ireturn, 1) := by decide +kernel
theorem l_kid (hG : GP G) (hQ : hasS S a (.inl (0, 48))) (hR : R32 mu) {o k : Int} {N : Nat} {p : Int → Int} (ho : 0 ≤ o ∧ o < 16) (h : KidP (mu a) o N p) (hk : 0 ≤ k ∧ k ≤ N) (hN : N ≤ 100) :
    Ct G l yL_kid wsL_kid 2 0 0 [.ref a, .int (I32 o), .int (I32 k)] S n mu la (Dt (some (.int (I32 (p k)))) S n mu la) := by
  obtain ⟨h0, hb, hs⟩ := h
  refine Ct.ofV (cc := cL_kid) (nL := 5) (ret := (some .int)) [some (.ref a), some (.int (I32 o)), some (.int (I32 k)), none, none] hG (by decide) rfl (Nat.le_of_ble_eq_true rfl) rfl ?_
  rintro X rfl rfl C hcl hsl E
  have loop : ∀ (m : Nat) (x : Int), 0 ≤ x → x + m = k → V X 7 [some (.ref a), some (.int (I32 o)), some (.int (I32 k)), some (.int (I32 (p x))), some (.int (I32 x))] [] S n mu la 0 0 := by
    intro m
    induction m with
    | zero =>
      intro x h1 h2
      have e1 : x = k := by omega
      subst e1
      refine V_iload C dL_kid_7 rfl ?_
      refine V_iload_n C dL_kid_9 rfl ?_
      refine V_icmp_ge C 25 dL_kid_10 (by decide) (by omega) (by omega) (fun c => ?_) (fun c => ?_)
      · refine V_iload_n C dL_kid_25 rfl ?_
        refine V_ireturn C E dL_kid_26 (by omega) (by omega) ?_
        exact Dt_rfl
      · exact absurd c (by omega)
    | succ m ih =>
      intro x h1 h2
      have s := hs x (by omega) (by omega)
      have ih := ih (x + 1) (by omega) (by omega)
      refine V_iload C dL_kid_7 rfl ?_
      refine V_iload_n C dL_kid_9 rfl ?_
      refine V_icmp_ge C 25 dL_kid_10 (by decide) (by omega) (by omega) (fun c => ?_) (fun c => ?_)
      · exact absurd c (by omega)
      · refine V_aload_n C dL_kid_13 rfl ?_
        refine V_iload_n C dL_kid_14 rfl ?_
        refine V_callSD (nA := 2) C dL_kid_15 (l_behind C.gp hQ hR s.2) gL_kid_L_behind rfl (by decide +kernel) rfl (by decide) (by decide) (Nat.le_of_ble_eq_true rfl) ⟨by omega, by omega⟩ rfl ?_
        refine V_istore_n C dL_kid_18 rfl (by decide) ?_
        refine V_iinc C dL_kid_19 rfl rfl (by decide) ?_
        refine V_goto C 7 dL_kid_22 (by decide) ?_
        exact ih
  have h9 := loop k.toNat 0 (by omega) (by omega)
  rw [h0] at h9
  refine V_iload_n C dL_kid_0 rfl ?_
  refine V_iconst C dL_kid_1 ?_
  refine V_iadd C dL_kid_2 ?_
  refine V_istore_n C dL_kid_3 rfl (by decide) ?_
  refine V_iconst C dL_kid_4 ?_
  refine V_istore C dL_kid_5 rfl (by decide) ?_
  exact h9
end LR1
