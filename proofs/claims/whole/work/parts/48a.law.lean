/-! THE LAW: reading the script, forgetting registers, a smaller room -/
def sc (xs : Nat → Int32) (i : Int) : Int := (xs i.toNat).toInt
theorem sc_b (xs : Nat → Int32) (i : Int) : -2147483648 ≤ sc xs i ∧ sc xs i ≤ 2147483647 := ⟨Int32.le_toInt _, by have := Int32.toInt_lt (xs i.toNat); unfold sc; omega⟩
theorem I32_sc (xs : Nat → Int32) (i : Int) : I32 (sc xs i) = xs i.toNat := Int32.ofInt_toInt _
section VS
variable {X : Cx} {cc : ByteArray} {Ts : List Cond} {own : String} {ret : Option FieldType} {fr nL : Nat} {pc : Nat} {r : Rg} {st : List Value} {S : Sh} {n : Nat} {mu : Mem} {la : Lam} {k sl : Nat}
theorem V_sald (C : Ok X cc Ts own ret fr nL) {b N : Nat} {xs : Nat → Int32} {i : Int} (hX : va_X b N xs (xS X) (xS X).heap) (hb : b < (xS X).heap.size ∧ b < gZ (xG X)) (hN : N ≤ 3072) (hi : 0 ≤ i ∧ i < N) (hd : decode cc pc = .ok (.iaload, 1))
    (kk : V X (pc + 1) r (.int (I32 (sc xs i)) :: st) S n mu la k sl) : V X pc r (.int (I32 i) :: .ref b :: st) S n mu la k sl := by
  intro H locs ls hH hS hl
  refine va_sld C.1 C.2.1 hX hb.1 (fun h => absurd hb.2 (Nat.not_lt.mpr h)) hS (I32_in hi (by omega)) hd ?_
  rw [I32_clamp (by omega)]
  have e := kk H locs ls hH hS hl
  rw [I32_sc] at e
  exact e
theorem V_slen (C : Ok X cc Ts own ret fr nL) {b N : Nat} {xs : Nat → Int32} (hX : va_X b N xs (xS X) (xS X).heap) (hb : b < (xS X).heap.size ∧ b < gZ (xG X)) (hd : decode cc pc = .ok (.arraylength, 1))
    (kk : V X (pc + 1) r (.int (I32 (N : Int)) :: st) S n mu la k sl) : V X pc r (.ref b :: st) S n mu la k sl := by
  intro H locs ls hH hS hl
  exact va_slen C.1 C.2.1 hX hb.1 (fun h => absurd hb.2 (Nat.not_lt.mpr h)) hS hd (kk H locs ls hH hS hl)
theorem V_fgt {r' : Rg} (h : ∀ q ∈ rOf 0 r', q ∈ rOf 0 r) (kk : V X pc r' st S n mu la k sl) : V X pc r st S n mu la k sl := fun H locs ls hH hS hl =>
  kk H locs ls hH hS ⟨hl.1, hl.2.1, fun q hq => hl.2.2 q (h q hq)⟩
end VS
theorem lg_cmp_xx (x : Int64) : lg_cmp x x = I32 0 := by unfold lg_cmp; simp [I32]
