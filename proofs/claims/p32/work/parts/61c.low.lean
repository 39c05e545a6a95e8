/-! THE LAW OF p32: numbers out of the script -/
def lowV (v : Int32) (n : Int) : Int := (v &&& I32 2147483647).toInt % n
theorem and31_nn (v : Int32) : 0 ≤ (v &&& I32 2147483647).toInt := by
  have h : (v &&& I32 2147483647).toBitVec.msb = false := by
    rw [Int32.toBitVec_and, BitVec.msb_and]
    have : (I32 2147483647).toBitVec.msb = false := by decide
    rw [this, Bool.and_false]
  have e : (v &&& I32 2147483647).toInt = (v &&& I32 2147483647).toBitVec.toInt := rfl
  rw [e, BitVec.toInt_eq_toNat_of_msb h]
  omega
theorem lowV_b (v : Int32) {n : Int} (hn : 0 < n) : 0 ≤ lowV v n ∧ lowV v n < n := by
  have := and31_nn v
  exact ⟨Int.emod_nonneg _ (by omega), Int.emod_lt_of_pos _ hn⟩
def celV (xs : Nat → Int32) (N : Nat) (k : Int) : Int32 := if k < N then xs k.toNat else I32 (40503 * (k + 3))
/-- the script stands where it stood -/
def GS (G : Gx) (b N : Nat) (xs : Nat → Int32) : Prop := ∀ U, G.2.2.2.2 U → va_X b N xs U U.heap ∧ b < U.heap.size ∧ b < gZ G
def sc (xs : Nat → Int32) (i : Int) : Int := (xs i.toNat).toInt
theorem I32_sc (xs : Nat → Int32) (i : Int) : I32 (sc xs i) = xs i.toNat := Int32.ofInt_toInt _
section VS
variable {X : Cx} {cc : ByteArray} {Ts : List Cond} {own : String} {ret : Option FieldType} {fr nL : Nat} {pc : Nat} {r : Rg} {st : List Value} {S : Sh} {n : Nat} {mu : Mem} {la : Lam} {k sl : Nat}
theorem V_sald (C : Ok X cc Ts own ret fr nL) {b N : Nat} {xs : Nat → Int32} {i : Int} (hX : va_X b N xs (xS X) (xS X).heap) (hb : b < (xS X).heap.size ∧ b < gZ (xG X)) (hN : N ≤ 3072) (hi : 0 ≤ i ∧ i < N) (hd : decode cc pc = .ok (.iaload, 1))
    (kk : V X (pc + 1) r (.int (xs i.toNat) :: st) S n mu la k sl) : V X pc r (.int (I32 i) :: .ref b :: st) S n mu la k sl := by
  intro H locs ls hH hS hl
  refine va_sld C.1 C.2.1 hX hb.1 (fun h => absurd hb.2 (Nat.not_lt.mpr h)) hS (I32_in hi (by omega)) hd ?_
  rw [I32_clamp (by omega)]
  exact kk H locs ls hH hS hl
theorem V_slen (C : Ok X cc Ts own ret fr nL) {b N : Nat} {xs : Nat → Int32} (hX : va_X b N xs (xS X) (xS X).heap) (hb : b < (xS X).heap.size ∧ b < gZ (xG X)) (hd : decode cc pc = .ok (.arraylength, 1))
    (kk : V X (pc + 1) r (.int (I32 (N : Int)) :: st) S n mu la k sl) : V X pc r (.ref b :: st) S n mu la k sl := by
  intro H locs ls hH hS hl
  exact va_slen C.1 C.2.1 hX hb.1 (fun h => absurd hb.2 (Nat.not_lt.mpr h)) hS hd (kk H locs ls hH hS hl)
end VS
section LW
variable {G : Gx} {l : Launch} {S : Sh} {n : Nat} {mu : Mem} {la : Lam}
theorem dL_low_0 : decode cL_low 0 = .ok (.iload_n 0, 1) := by decide +kernel
theorem dL_low_1 : decode cL_low 1 = .ok (.ldc 8, 2) := by decide +kernel
theorem dL_low_3 : decode cL_low 3 = .ok (.iand, 1) := by decide +kernel
theorem dL_low_4 : decode cL_low 4 = .ok (.iload_n 1, 1) := by decide +kernel
theorem dL_low_5 : decode cL_low 5 = .ok (.irem, 1) := by decide +kernel
theorem dL_low_6 : decode cL_low 6 = .ok (.ireturn, 1) := by decide +kernel
theorem l_low (hG : GP G) {v : Int32} {m : Int} (hm : 0 < m ∧ m ≤ 2147483647) : Ct G l yL_low wsL_low 0 0 0 [.int v, .int (I32 m)] S n mu la (Dt (some (.int (I32 (lowV v m)))) S n mu la) := by
  have a := and31_nn v
  have b := I32_bound (v &&& I32 2147483647)
  refine Ct.ofV (cc := cL_low) (nL := 2) (ret := (some .int)) [some (.int v), some (.int (I32 m))] hG (by decide) rfl (Nat.le_of_ble_eq_true rfl) rfl ?_
  rintro X rfl rfl C hcl hsl E
  refine V_iload_n C dL_low_0 rfl ?_
  refine V_ldcI C (v := 2147483647) dL_low_1 (by decide +kernel) ?_
  refine V_iand C dL_low_3 ?_
  rw [← I32_of (v &&& I32 2147483647)]
  refine V_iload_n C dL_low_4 rfl ?_
  refine V_irem C dL_low_5 ⟨a, b.2⟩ ⟨hm.1, hm.2⟩ ?_
  refine V_ireturn C E dL_low_6 (by omega) (by omega) ?_
  exact Dt_rfl
theorem dL_cell_0 : decode cL_cell 0 = .ok (.iload_n 1, 1) := by decide +kernel
theorem dL_cell_1 : decode cL_cell 1 = .ok (.aload_n 0, 1) := by decide +kernel
theorem dL_cell_2 : decode cL_cell 2 = .ok (.arraylength, 1) := by decide +kernel
theorem dL_cell_3 : decode cL_cell 3 = .ok (.if_icmp .ge 9, 3) := by decide +kernel
theorem dL_cell_6 : decode cL_cell 6 = .ok (.aload_n 0, 1) := by decide +kernel
theorem dL_cell_7 : decode cL_cell 7 = .ok (.iload_n 1, 1) := by decide +kernel
theorem dL_cell_8 : decode cL_cell 8 = .ok (.iaload, 1) := by decide +kernel
theorem dL_cell_9 : decode cL_cell 9 = .ok (.goto 9, 3) := by decide +kernel
theorem dL_cell_12 : decode cL_cell 12 = .ok (.ldc 7, 2) := by decide +kernel
theorem dL_cell_14 : decode cL_cell 14 = .ok (.iload_n 1, 1) := by decide +kernel
theorem dL_cell_15 : decode cL_cell 15 = .ok (.iconst 3, 1) := by decide +kernel
theorem dL_cell_16 : decode cL_cell 16 = .ok (.iadd, 1) := by decide +kernel
theorem dL_cell_17 : decode cL_cell 17 = .ok (.imul, 1) := by decide +kernel
theorem dL_cell_18 : decode cL_cell 18 = .ok (.ireturn, 1) := by decide +kernel
theorem l_cell (hG : GP G) {b N : Nat} {xs : Nat → Int32} (hS : GS G b N xs) (hN : N ≤ 260) {k : Int} (hk : 0 ≤ k ∧ k ≤ 1000) : Ct G l yL_cell wsL_cell 0 0 0 [.ref b, .int (I32 k)] S n mu la (Dt (some (.int (celV xs N k))) S n mu la) := by
  refine Ct.ofV (cc := cL_cell) (nL := 2) (ret := (some .int)) [some (.ref b), some (.int (I32 k))] hG (by decide) rfl (Nat.le_of_ble_eq_true rfl) rfl ?_
  rintro X rfl rfl C hcl hsl E
  obtain ⟨hX, hb⟩ := hS _ C.pe.2.2
  refine V_iload_n C dL_cell_0 rfl ?_
  refine V_aload_n C dL_cell_1 rfl ?_
  refine V_slen C hX hb dL_cell_2 ?_
  refine V_icmp_ge C 12 dL_cell_3 (by decide) (by omega) (by omega) (fun c => ?_) (fun c => ?_)
  · refine V_ldcI C (v := 40503) dL_cell_12 (by decide +kernel) ?_
    refine V_iload_n C dL_cell_14 rfl ?_
    refine V_iconst C dL_cell_15 ?_
    refine V_iadd C dL_cell_16 ?_
    refine V_imul C dL_cell_17 ?_
    refine V_ireturn C E dL_cell_18 (by omega) (by omega) ?_
    rw [celV, if_neg (by omega)]
    exact Dt_rfl
  · refine V_aload_n C dL_cell_6 rfl ?_
    refine V_iload_n C dL_cell_7 rfl ?_
    refine V_sald C hX hb (by omega) ⟨by omega, by omega⟩ dL_cell_8 ?_
    refine V_goto C 18 dL_cell_9 (by decide) ?_
    refine V_ireturn C E dL_cell_18 (by omega) (by omega) ?_
    rw [celV, if_pos (by omega)]
    exact Dt_rfl
end LW
