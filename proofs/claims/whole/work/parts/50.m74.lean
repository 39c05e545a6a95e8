/-! A RUN OF COMMANDS: from its beginning to its end -/
def JC (m w : Mem) (t r : Nat) : Prop := (0 ≤ m t 3 ∧ m t 3 ≤ m t 2) ∧ m t 4 = -1 ∧ w r 20 = kF w r (m t 3)
theorem kF_off {w w' : Mem} {r : Nat} (e5 : ∀ i : Int, w' (r + 5) i = w (r + 5) i) (e6 : w' r 6 = w r 6) (c : Int) : kF w' r c = kF w r c := by
  unfold kF
  rw [show w' (r + 5) = w (r + 5) from funext e5, e6]
theorem tx_n {m : Mem} {t : Nat} {u f k : Int} {X : Int → Int} (i : Int) : txM m t u f k X (t + 2) i = X i := by
  unfold txM
  rw [if_neg (by omega), if_pos rfl]
theorem tx_x {m : Mem} {t : Nat} {u f k : Int} {X : Int → Int} {x : Nat} (h : x ≠ t) (h2 : x ≠ t + 2) (i : Int) : txM m t u f k X x i = m x i := by
  unfold txM
  rw [if_neg h, if_neg h2]
section S3
variable {N : Int} {m w : Mem} {c h t p b q r : Nat} {s0 past : Int → Int} {np : Int}
theorem J_one (O : Od c h t p b q r) (J : JR N m w c h t b r s0 past np) (C : JC m w t r) (hN : 1000000 ≤ N ∧ N ≤ 10000000) (hl : w r 20 < w r 6) :
    ((rx1 w r).1 = 1 → (rnF m t (m t 3) (m t 5) (m (t + 2))).1 = 1 ∧ JR N (txT m t (rnF m t (m t 3) (m t 5) (m (t + 2))).2) (rm1 w r) c h t b r s0 past np ∧ dsO (rm1 w r) r (rx1 w r).2.2.1 ∧ (dsF (rm1 w r) r (rx1 w r).2.2.1 = 0 ↔ fcF (txT m t (rnF m t (m t 3) (m t 5) (m (t + 2))).2) c t = 0) ∧
      (fcF (txT m t (rnF m t (m t 3) (m t 5) (m (t + 2))).2) c t = 0 → JR (N + 20) (coM (txT m t (rnF m t (m t 3) (m t 5) (m (t + 2))).2) c t) (dsM (rm1 w r) r (rx1 w r).2.2.1) c h t b r s0 past np ∧ JC (coM (txT m t (rnF m t (m t 3) (m t 5) (m (t + 2))).2) c t) (dsM (rm1 w r) r (rx1 w r).2.2.1) t r ∧
        m t 3 < coM (txT m t (rnF m t (m t 3) (m t 5) (m (t + 2))).2) c t t 3 ∧ w r 20 < dsM (rm1 w r) r (rx1 w r).2.2.1 r 20 ∧ dsM (rm1 w r) r (rx1 w r).2.2.1 r 6 = w r 6 ∧ (∀ (x : Nat) (i : Int), (x < c ∨ c + 49 ≤ x) → x ≠ t → x ≠ t + 2 → coM (txT m t (rnF m t (m t 3) (m t 5) (m (t + 2))).2) c t x i = m x i))) ∧
    ((rx1 w r).1 ≠ 1 → (rnF m t (m t 3) (m t 5) (m (t + 2))).1 = 0 ∧ JR N (txT m t (rnF m t (m t 3) (m t 5) (m (t + 2))).2) (rm1 w r) c h t b r s0 past np) := by
  obtain ⟨C1, C2, C3⟩ := C
  have A := TQ.of J.tt
  have a1 := A.1
  have hc : 0 ≤ m t 3 ∧ m t 3 ≤ w r 6 := by omega
  have kb := kF_b w r hc
  have q := cm_e A (m t 5) (m (t + 2)) (w (r + 16)) hc (by omega)
  have rb := rnF_b m t (c := m t 3) (m t 5) (m (t + 2)) C1 J.kd
  have rN := rnF_N m t (m t 3) (m t 5) (N := m (t + 2)) (fun j => J.rc _ j)
  have cb := cmF_b w r (c := kF w r (m t 3)) (w (r + 16)) (by omega)
  have cN := cmF_N w r (kF w r (m t 3)) (N := w (r + 16)) (fun j => J.rr _ j)
  have ex : rx1 w r = cmF w r (kF w r (m t 3)) (w (r + 16)) := by show cmF w r (w r 20) _ = _; rw [C3]
  have em : rm1 w r = mxM w r (cmF w r (kF w r (m t 3)) (w (r + 16))).2.1 (cmF w r (kF w r (m t 3)) (w (r + 16))).2.2.2 := by
    show mxM w r (rx1 w r).2.1 (rx1 w r).2.2.2 = _
    rw [ex]
  rw [em, ex]
  generalize cmF w r (kF w r (m t 3)) (w (r + 16)) = Y at *
  generalize hX : rnF m t (m t 3) (m t 5) (m (t + 2)) = X at *
  have b2 := A.2.1
  have J1 : JR N (txT m t X.2) (mxM w r Y.2.1 Y.2.2.2) c h t b r s0 past np := J.tx O (by omega) (by omega) rb.2.1 rN (by omega) cN
  refine ⟨fun y => ?_, fun y => ⟨(q.2 y).1, J1⟩⟩
  obtain ⟨q1, q2, q3, q4, q5, q6⟩ := q.1 y
  have st := J1.step O hN (K := X.2.2.2.1) (v := Y.2.2.1) tx_5 q4 q5 (fun j h1 h2 => by rw [show txT m t X.2 (t + 2) j = X.2.2.2.2 j from tx_n j, mx_n]; exact q6 j h1 h2)
  refine ⟨q1, J1, st.1, st.2.1, fun f => ?_⟩
  have J2 := st.2.2 f
  have o8 : txT m t X.2 t 5 = 7 ∨ txT m t X.2 t 5 = 8 → (txT m t X.2 (t + 2) 0).toNat < 4 := fun z => by have := fc_78 f z; omega
  have O' := O
  obtain ⟨o1, o2, o3, o4, o5, o6⟩ := O'
  have co : ∀ (x : Nat) (i : Int), x < c ∨ c + 49 ≤ x → coM (txT m t X.2) c t x i = txT m t X.2 x i := fun x i hx => coM_off hx i o8
  have c3 : coM (txT m t X.2) c t t 3 = X.2.1 := (co _ _ (by omega)).trans tx_3
  have c4 : coM (txT m t X.2) c t t 4 = X.2.2.1 := (co _ _ (by omega)).trans tx_4
  have c2 : coM (txT m t X.2) c t t 2 = m t 2 := (co _ _ (by omega)).trans tx_2
  have d20 : dsM (mxM w r Y.2.1 Y.2.2.2) r Y.2.2.1 r 20 = Y.2.1 := by rw [dsM_off (by omega) _ (by omega), mx_c]
  have d6 : dsM (mxM w r Y.2.1 Y.2.2.2) r Y.2.2.1 r 6 = w r 6 := by rw [dsM_off (by omega) _ (by omega), mx_6]
  have d5 : ∀ i : Int, dsM (mxM w r Y.2.1 Y.2.2.2) r Y.2.2.1 (r + 5) i = w (r + 5) i := fun i => by rw [dsM_off (by omega) _ (by omega), mx_a (by omega) (by omega)]
  have rb4 := rb.2.2.2.1 q1
  have cb3 := cb.2.2 y
  refine ⟨J2, ⟨?_, ?_, ?_⟩, ?_, ?_, d6, fun x i h1 h2 h3 => ?_⟩
  · rw [c3, c2]; exact rb.1
  · rw [c4]; exact q3
  · rw [d20, c3, kF_off d5 d6]; exact q2.symm
  · rw [c3]; omega
  · rw [d20]; omega
  · rw [co x i h1]; exact tx_x h2 h3 i
theorem mx_self9 (w : Mem) (r : Nat) : mxM w r (w r 20) (w (r + 16)) = w := by
  funext x i
  unfold mxM
  by_cases z : x = r ∧ i = 20
  · rw [if_pos z, z.1, z.2]
  · rw [if_neg z]
    split
    · rename_i y; rw [y]
    · rfl
theorem J_none (O : Od c h t p b q r) (J : JR N m w c h t b r s0 past np) (C : JC m w t r) (hl : ¬ w r 20 < w r 6) :
    (rnF m t (m t 3) (m t 5) (m (t + 2))).1 = 0 ∧ JR N (txT m t (rnF m t (m t 3) (m t 5) (m (t + 2))).2) w c h t b r s0 past np := by
  obtain ⟨C1, C2, C3⟩ := C
  have A := TQ.of J.tt
  have a1 := A.1
  have a2 := A.2.1
  have hc : 0 ≤ m t 3 ∧ m t 3 ≤ w r 6 := by omega
  have kb := kF_b w r hc
  have e := rn_end A (m t 5) (m (t + 2)) hc (by omega)
  rw [e]
  refine ⟨rfl, ?_⟩
  have J1 := J.tx O (u := kF w r (m t 3)) (f := -1) (k := m t 5) (u' := w r 20) (X := m (t + 2)) (Y := w (r + 16)) (by omega) (by omega) J.kd (fun j => J.rc _ j) (J.rr _ _) (fun j => J.rr _ j)
  rw [mx_self9] at J1
  exact J1
theorem J_run (O : Od c h t p b q r) : ∀ (d e : Nat) (N : Int) (m w : Mem) (n : Int) (W : Int64), JR N m w c h t b r s0 past np → JC m w t r → 1000000 ≤ N → N + 20 * (w r 6 - m t 3) ≤ 10000000 → w r 6 - m t 3 ≤ d → w r 6 - w r 20 < e →
    (rcG c t d m n).1 = (rrG r e w W n).1 ∧ JR (N + 20 * (w r 6 - m t 3)) (rcG c t d m n).2 (rrG r e w W n).2.1 c h t b r s0 past np
  | 0, e, N, m, w, n, W, J, C, h1, h2, h3, h4 => by
    have A := TQ.of J.tt
    have a1 := A.1
    have C1 := C.1
    have C3 := C.2.2
    have kb := kF_b w r (c := m t 3) (by omega)
    have er : rrG r e w W n = (n, w, W) := by
      cases e with
      | zero => rw [rrG]
      | succ e => rw [rrG, if_neg (by omega)]
    rw [er, rcG]
    exact ⟨rfl, J.mono (by omega)⟩
  | d + 1, 0, N, m, w, n, W, J, C, h1, h2, h3, h4 => by
    have A := TQ.of J.tt
    have a1 := A.1
    have C1 := C.1
    have C3 := C.2.2
    have kb := kF_b w r (c := m t 3) (by omega)
    omega
  | d + 1, e + 1, N, m, w, n, W, J, C, h1, h2, h3, h4 => by
    have A := TQ.of J.tt
    have a1 := A.1
    have C1 := C.1
    rw [rcG, rrG]
    by_cases hl : w r 20 < w r 6
    · have q := J_one O J C (by omega) hl
      rw [if_pos hl]
      by_cases y : (rx1 w r).1 = 1
      · obtain ⟨q1, q2, q3, q4, q5⟩ := q.1 y
        rw [if_pos q1, if_pos y]
        by_cases f : fcF (txT m t (rnF m t (m t 3) (m t 5) (m (t + 2))).2) c t = 0
        · obtain ⟨g1, g2, g3, g4, g5, g6⟩ := q5 f
          rw [if_pos f, if_pos (q4.mpr f)]
          have ih := J_run O d e (N + 20) _ _ (n + 1) (I64 (rx1 w r).2.2.1) g1 g2 (by omega) (by rw [g5]; omega) (by rw [g5]; omega) (by rw [g5]; omega)
          rw [g5] at ih
          exact ⟨ih.1, ih.2.mono (by omega)⟩
        · rw [if_neg f, if_neg (fun z => f (q4.mp z))]
          exact ⟨rfl, q2.mono (by omega)⟩
      · obtain ⟨q1, q2⟩ := q.2 y
        rw [if_neg (by omega), if_neg y]
        exact ⟨rfl, q2.mono (by omega)⟩
    · obtain ⟨q1, q2⟩ := J_none O J C hl
      rw [if_neg (by omega), if_neg hl]
      exact ⟨rfl, q2.mono (by omega)⟩
end S3
