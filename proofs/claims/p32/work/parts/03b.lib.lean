section VLB
variable {X : Cx} {cc : ByteArray} {Ts : List Cond} {own : String} {ret : Option FieldType} {fr nL : Nat} {pc : Nat} {r : Rg} {st : List Value} {S : Sh} {n : Nat} {mu : Mem} {la : Lam} {k sl : Nat}
theorem V_mmax (C : Ok X cc Ts own ret fr nL) {index : Nat} {x y : Int} (hd : decode cc pc = .ok (.invokestatic index, 3)) (h1 : Cond.methodLink own index Lib.Math.max.name ∈ Ts) (h2 : Cond.static Lib.Math.max.name ∈ Ts) (h3 : Cond.initialized "java/lang/Math" ∈ Ts) (h4 : Cond.code Lib.Math.max.name Lib.Math.max.code 2 (some .int) ∈ Ts)
    (hfr : 1 ≤ fr) (hcat : (st.map fun v => v.category).sum ≤ 8) (hf : k ≤ (xR X).cells ∧ sl ≤ (xR X).slots) (hx : -2147483648 ≤ x ∧ x ≤ 2147483647) (hy : -2147483648 ≤ y ∧ y ≤ 2147483647)
    (kk : V X (pc + 3) r (.int (I32 (max x y)) :: st) S n mu la k sl) : V X pc r (.int (I32 y) :: .int (I32 x) :: st) S n mu la k sl := by
  intro H locs ls hH hS hl
  refine va_mmax C.1 C.2.1 (by rw [C.2.2.1]; exact hl.1.symm) C.own (C.ts _ h1) (C.ts _ h2) (C.ts _ h3) (C.ts _ h4) (by rw [C.frames]; exact hfr) (by rw [C.regs]; omega) hf.1 hf.2 hd ?_
  have e : (if I32 x < I32 y then I32 y else I32 x) = I32 (max x y) := by
    by_cases h : x < y
    · rw [if_pos ((I32_lt hx hy).mpr h), Int.max_eq_right (by omega)]
    · rw [if_neg (fun q => h ((I32_lt hx hy).mp q)), Int.max_eq_left (by omega)]
  rw [e]
  exact kk H locs ls hH hS hl
theorem V_mmin (C : Ok X cc Ts own ret fr nL) {index : Nat} {x y : Int} (hd : decode cc pc = .ok (.invokestatic index, 3)) (h1 : Cond.methodLink own index Lib.Math.min.name ∈ Ts) (h2 : Cond.static Lib.Math.min.name ∈ Ts) (h3 : Cond.initialized "java/lang/Math" ∈ Ts) (h4 : Cond.code Lib.Math.min.name Lib.Math.min.code 2 (some .int) ∈ Ts)
    (hfr : 1 ≤ fr) (hcat : (st.map fun v => v.category).sum ≤ 8) (hf : k ≤ (xR X).cells ∧ sl ≤ (xR X).slots) (hx : -2147483648 ≤ x ∧ x ≤ 2147483647) (hy : -2147483648 ≤ y ∧ y ≤ 2147483647)
    (kk : V X (pc + 3) r (.int (I32 (min x y)) :: st) S n mu la k sl) : V X pc r (.int (I32 y) :: .int (I32 x) :: st) S n mu la k sl := by
  intro H locs ls hH hS hl
  refine va_mmin C.1 C.2.1 (by rw [C.2.2.1]; exact hl.1.symm) C.own (C.ts _ h1) (C.ts _ h2) (C.ts _ h3) (C.ts _ h4) (by rw [C.frames]; exact hfr) (by rw [C.regs]; omega) hf.1 hf.2 hd ?_
  have e : (if I32 y < I32 x then I32 y else I32 x) = I32 (min x y) := by
    by_cases h : y < x
    · rw [if_pos ((I32_lt hy hx).mpr h), Int.min_eq_right (by omega)]
    · rw [if_neg (fun q => h ((I32_lt hy hx).mp q)), Int.min_eq_left (by omega)]
  rw [e]
  exact kk H locs ls hH hS hl
/-- a whole row copied -/
def cpF (mu : Mem) (a b m : Nat) : Mem := fun x i => if x = b ∧ 0 ≤ i ∧ i < m then mu a i else mu x i
theorem V_copy (C : Ok X cc Ts own ret fr nL) {index a b m : Nat} (hd : decode cc pc = .ok (.invokestatic index, 3)) (h1 : Cond.methodLink own index arraycopyName ∈ Ts) (h2 : Cond.native arraycopyName ∈ Ts) (h3 : Cond.static arraycopyName ∈ Ts) (h4 : Cond.initialized "java/lang/System" ∈ Ts)
    (hfr : 1 ≤ fr) (hcat : (st.map fun v => v.category).sum ≤ 8) (ha : hasS S a (.inl (0, m))) (hb : hasS S b (.inl (0, m))) (hm : m < 2147483648)
    (kk : V X (pc + 3) r st S n (cpF mu a b m) la 0 0) : V X pc r (.int (I32 m) :: .int (I32 0) :: .ref b :: .int (I32 0) :: .ref a :: st) S n mu la 0 0 := by
  intro H locs ls hH hS hl T hT XX
  obtain ⟨ja, hja, -⟩ := hH.obj ha
  obtain ⟨jb, hjb, -⟩ := hH.obj hb
  have hz0 : H.size = (xS X).heap.size := by
    have q1 := XX.same.2.1
    have q2 := XX.same.2.2.1
    have q3 : T.heap.size = H.size := by rw [hT]
    have q4 : T.heap.size ≤ (xS X).heap.size + 0 := q2
    have q5 : (xS X).heap.size ≤ T.heap.size := q1
    omega
  have hc0 : (I32 (0 : Int)).toNatClampNeg = 0 := by decide +kernel
  have hcm : (I32 (m : Int)).toNatClampNeg = m := by rw [I32_clamp (by omega)]; omega
  have n0 : ¬ I32 (0 : Int) < 0 := by decide +kernel
  have nm : ¬ I32 (m : Int) < 0 := by rw [I32_0, I32_lt (by omega) (by omega)]; omega
  refine va_copyi (D := gD (xG X)) (tys := gT (xG X)) C.1 C.2.1 (by rw [C.2.2.1]; exact hl.1.symm) C.own (C.ts _ h1) (C.ts _ h2) (C.ts _ h3) (C.ts _ h4) C.pe.1 hH.1 hH.2.1 hS ja jb 0 0 hja hjb rfl rfl rfl n0 n0 nm (by rw [hc0, hcm]; omega) (by rw [hc0, hcm]; omega) (fun _ _ => rfl) (by rw [C.frames]; exact hfr) (by rw [C.regs]; show (st.map fun v => v.category).sum + (7 + 11) ≤ 30 * fr; omega) hd (fun H1 locs1 hP hD hS1 T1 hT1 XX1 => ?_) T hT XX
  have hz1 : H1.size = (xS X).heap.size := by
    have q1 := XX1.same.2.1
    have q2 := XX1.same.2.2.1
    have q3 : T1.heap.size = H1.size := by rw [hT1]
    have q4 : T1.heap.size ≤ (xS X).heap.size + 0 := q2
    have q5 : (xS X).heap.size ≤ T1.heap.size := q1
    omega
  have e : ((b, .inl ((xG X).2.1.1, m, .inl (va_cpy (fun j => I32 (mu a j)) (fun j => I32 (mu b j)) (I32 0).toNatClampNeg (I32 0).toNatClampNeg (I32 m).toNatClampNeg))) : Nat × va_E) = (b, ins (xG X) (cpF mu a b m) la b (.inl (0, m))) := by
    have e2 : ins (xG X) (cpF mu a b m) la b (.inl (0, m)) = .inl ((xG X).2.1.1, m, .inl (fun j => I32 (cpF mu a b m b j))) := rfl
    rw [e2]
    congr 4
    rw [hc0, hcm]
    congr 1
    funext j
    by_cases hj : j < m
    · rw [pk_cpy_in (by omega) (by omega)]
      have : (0 : Int) ≤ (j : Int) ∧ (j : Int) < m := by omega
      simp [cpF, this]
    · rw [pk_cpy_out (by omega)]
      have : ¬ ((0 : Int) ≤ (j : Int) ∧ (j : Int) < m) := by omega
      simp only [cpF, this, and_false, if_false]
  have hw : (wl (xG X) S mu la).set jb (b, ins (xG X) (cpF mu a b m) la b (.inl (0, m))) = wl (xG X) S (cpF mu a b m) la := wl_set hH.2.1 hb hjb (fun x i hx => by simp [cpF, hx]) (fun _ _ _ => rfl)
  rw [e, hw] at hP hD
  exact kk H1 locs1 ls ⟨hP, hD, by rw [hz1, ← hz0]; exact hH.2.2.1, hH.2.2.2⟩ hS1 hl T1 hT1 XX1
end VLB
