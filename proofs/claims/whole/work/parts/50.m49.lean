/-! WHAT THE REFERENCE LAYS OUT, beside the class's plan -/
theorem Rl.so {u : Int → Int} {L T : Mem} (R : Rl u L T (-1) 1) (F : Fu L) : SO T := by
  intro o ho sp
  have k23 : T 0 o = 2 ∨ T 0 o = 3 := by
    unfold spT at sp
    split at sp
    · assumption
    · omega
  obtain ⟨g, g1, rfl⟩ := R.sur o ho.1 ho.2 (by omega)
  have kg := R.knd g g1
  have gb := g1.1
  have g32 : 32 ≤ g := by
    rcases Int.lt_or_le g 32 with z | z
    · exfalso
      unfold kindL at kg
      rw [if_pos z, if_neg (by omega)] at kg
      split at kg <;> omega
    · exact z
  have c16 := R.wf.cnt16 F (h := g) ⟨by omega, by omega⟩
  rw [R.kids g1 g32]
  refine ⟨c16, fun k hk => ?_⟩
  obtain ⟨m1, m2, m3⟩ := mbrF_get R.wf.mb (h := g) (i := k) ⟨by omega, by omega⟩ hk
  have ut := R.wf.usd (t := mbrF L g k) (by omega) (by omega)
  rw [R.kid g1 g32 hk]
  exact (R.rng _ ut).1
section LK
variable {N : Int} {mu : Mem} {c h t p b q r : Nat}
def Look (mu : Mem) (c p r : Nat) (u : Int → Int) (rk : Int → Nat) (wn : Int → Int) : Prop :=
  (Rl u (lay mu (c + 2)) (trT mu r) (-1) 1) ∧
  (Fu (lay mu (c + 2))) ∧
  (Cl (lay mu (c + 2)) (mu c 2)) ∧
  (Vl (lay mu (c + 2))) ∧
  (LeB (mu (c + 1))) ∧
  (LeL (mu (c + 1)) (lay mu (c + 2))) ∧
  (RK (lay mu (c + 2)) rk) ∧
  (PlE (lay mu (c + 2)) (mu (c + 1)) (mu c 0) (mu c 1) rk (pl mu p)) ∧
  (BxI u (lay mu (c + 2)) (mu (c + 1)) (mu c 0) (mu c 1) rk (qW mu r) wn (zW mu r) (qW mu r)) ∧
  (0 ≤ qW mu r ∧ qW mu r ≤ 31) ∧
  (∀ g : Int, Us (lay mu (c + 2)) (-1) g → lay mu (c + 2) 0 g = 48 → zW mu r 9 (u g) = lay mu (c + 2) 6 (2 * (g - 16)) ∧ zW mu r 10 (u g) = lay mu (c + 2) 6 (2 * (g - 16) + 1) ∧ zW mu r 11 (u g) = lay mu (c + 2) 7 (2 * (g - 16)) ∧ zW mu r 12 (u g) = lay mu (c + 2) 7 (2 * (g - 16) + 1)) ∧
  (LyOk mu r (trT mu r) (zOf mu r) (mu (r + 1) 0) (mu (r + 1) 1)) ∧
  (mu (r + 1) 0 = mu c 0 ∧ mu (r + 1) 1 = mu c 1)
theorem Look.rl {mu : Mem} {c p r : Nat} {u : Int → Int} {rk : Int → Nat} {wn : Int → Int} (h9 : Look mu c p r u rk wn) : Rl u (lay mu (c + 2)) (trT mu r) (-1) 1 := h9.1
theorem Look.fu {mu : Mem} {c p r : Nat} {u : Int → Int} {rk : Int → Nat} {wn : Int → Int} (h9 : Look mu c p r u rk wn) : Fu (lay mu (c + 2)) := h9.2.1
theorem Look.cl {mu : Mem} {c p r : Nat} {u : Int → Int} {rk : Int → Nat} {wn : Int → Int} (h9 : Look mu c p r u rk wn) : Cl (lay mu (c + 2)) (mu c 2) := h9.2.2.1
theorem Look.vl {mu : Mem} {c p r : Nat} {u : Int → Int} {rk : Int → Nat} {wn : Int → Int} (h9 : Look mu c p r u rk wn) : Vl (lay mu (c + 2)) := h9.2.2.2.1
theorem Look.leb {mu : Mem} {c p r : Nat} {u : Int → Int} {rk : Int → Nat} {wn : Int → Int} (h9 : Look mu c p r u rk wn) : LeB (mu (c + 1)) := h9.2.2.2.2.1
theorem Look.lel {mu : Mem} {c p r : Nat} {u : Int → Int} {rk : Int → Nat} {wn : Int → Int} (h9 : Look mu c p r u rk wn) : LeL (mu (c + 1)) (lay mu (c + 2)) := h9.2.2.2.2.2.1
theorem Look.rkk {mu : Mem} {c p r : Nat} {u : Int → Int} {rk : Int → Nat} {wn : Int → Int} (h9 : Look mu c p r u rk wn) : RK (lay mu (c + 2)) rk := h9.2.2.2.2.2.2.1
theorem Look.pln {mu : Mem} {c p r : Nat} {u : Int → Int} {rk : Int → Nat} {wn : Int → Int} (h9 : Look mu c p r u rk wn) : PlE (lay mu (c + 2)) (mu (c + 1)) (mu c 0) (mu c 1) rk (pl mu p) := h9.2.2.2.2.2.2.2.1
theorem Look.bxi {mu : Mem} {c p r : Nat} {u : Int → Int} {rk : Int → Nat} {wn : Int → Int} (h9 : Look mu c p r u rk wn) : BxI u (lay mu (c + 2)) (mu (c + 1)) (mu c 0) (mu c 1) rk (qW mu r) wn (zW mu r) (qW mu r) := h9.2.2.2.2.2.2.2.2.1
theorem Look.qb {mu : Mem} {c p r : Nat} {u : Int → Int} {rk : Int → Nat} {wn : Int → Int} (h9 : Look mu c p r u rk wn) : 0 ≤ qW mu r ∧ qW mu r ≤ 31 := h9.2.2.2.2.2.2.2.2.2.1
theorem Look.flo {mu : Mem} {c p r : Nat} {u : Int → Int} {rk : Int → Nat} {wn : Int → Int} (h9 : Look mu c p r u rk wn) : ∀ g : Int, Us (lay mu (c + 2)) (-1) g → lay mu (c + 2) 0 g = 48 → zW mu r 9 (u g) = lay mu (c + 2) 6 (2 * (g - 16)) ∧ zW mu r 10 (u g) = lay mu (c + 2) 6 (2 * (g - 16) + 1) ∧ zW mu r 11 (u g) = lay mu (c + 2) 7 (2 * (g - 16)) ∧ zW mu r 12 (u g) = lay mu (c + 2) 7 (2 * (g - 16) + 1) := h9.2.2.2.2.2.2.2.2.2.2.1
theorem Look.ok {mu : Mem} {c p r : Nat} {u : Int → Int} {rk : Int → Nat} {wn : Int → Int} (h9 : Look mu c p r u rk wn) : LyOk mu r (trT mu r) (zOf mu r) (mu (r + 1) 0) (mu (r + 1) 1) := h9.2.2.2.2.2.2.2.2.2.2.2.1
theorem Look.wh {mu : Mem} {c p r : Nat} {u : Int → Int} {rk : Int → Nat} {wn : Int → Int} (h9 : Look mu c p r u rk wn) : mu (r + 1) 0 = mu c 0 ∧ mu (r + 1) 1 = mu c 1 := h9.2.2.2.2.2.2.2.2.2.2.2.2
theorem Look.mk {mu : Mem} {c p r : Nat} {u : Int → Int} {rk : Int → Nat} {wn : Int → Int} (h_rl : Rl u (lay mu (c + 2)) (trT mu r) (-1) 1) (h_fu : Fu (lay mu (c + 2))) (h_cl : Cl (lay mu (c + 2)) (mu c 2)) (h_vl : Vl (lay mu (c + 2))) (h_leb : LeB (mu (c + 1))) (h_lel : LeL (mu (c + 1)) (lay mu (c + 2))) (h_rkk : RK (lay mu (c + 2)) rk) (h_pln : PlE (lay mu (c + 2)) (mu (c + 1)) (mu c 0) (mu c 1) rk (pl mu p)) (h_bxi : BxI u (lay mu (c + 2)) (mu (c + 1)) (mu c 0) (mu c 1) rk (qW mu r) wn (zW mu r) (qW mu r)) (h_qb : 0 ≤ qW mu r ∧ qW mu r ≤ 31) (h_flo : ∀ g : Int, Us (lay mu (c + 2)) (-1) g → lay mu (c + 2) 0 g = 48 → zW mu r 9 (u g) = lay mu (c + 2) 6 (2 * (g - 16)) ∧ zW mu r 10 (u g) = lay mu (c + 2) 6 (2 * (g - 16) + 1) ∧ zW mu r 11 (u g) = lay mu (c + 2) 7 (2 * (g - 16)) ∧ zW mu r 12 (u g) = lay mu (c + 2) 7 (2 * (g - 16) + 1)) (h_ok : LyOk mu r (trT mu r) (zOf mu r) (mu (r + 1) 0) (mu (r + 1) 1)) (h_wh : mu (r + 1) 0 = mu c 0 ∧ mu (r + 1) 1 = mu c 1) : Look mu c p r u rk wn := ⟨h_rl, h_fu, h_cl, h_vl, h_leb, h_lel, h_rkk, h_pln, h_bxi, h_qb, h_flo, h_ok, h_wh⟩
theorem Inv.look (A : Inv N mu c h t p b r) : ∃ (u : Int → Int) (rk : Int → Nat) (wn : Int → Int), Look mu c p r u rk wn := by
  obtain ⟨e, P, Lr⟩ := A.base
  obtain ⟨A1, R0⟩ := A
  have wd := A1.st.wid
  have hi := A1.st.hig
  obtain ⟨rk, k1, k2⟩ := A1.pln
  obtain ⟨u, R⟩ := Lr.rl
  have hfr : ∀ p ax : Int, 0 ≤ p → p < 16 → (ax = 0 ∨ ax = 1) → leR mu r ax p = mu (c + 1) (2 * p + ax) := fun p ax h1 h2 ha => by
    have := (A1.st.lst (2 * p + ax) (by omega) (by omega)).1
    unfold leR
    rw [this]
    congr 1
    omega
  obtain ⟨⟨wn, B⟩, o1, o2, o3⟩ := laZ_e (mu := mu) (rr := r) (Z := zOf mu r) R Lr.fu A1.st.leB A1.st.leL Lr.vl (zOf_R R0 r) k1.1 k1.2 (w := mu c 0) (h := mu c 1) (by omega) (by omega) (by rw [e]; exact P) (by rw [e]; exact Lr.cl) hfr R0
  have w0 : mu (r + 1) 0 = mu c 0 := wd.1.symm
  have w1 : mu (r + 1) 1 = mu c 1 := hi.1.symm
  have ez : laZ mu r (trT mu r) (zOf mu r) (mu c 0) (mu c 1) = zW mu r := by show _ = laZ mu r (trT mu r) (zOf mu r) (mu (r + 1) 0) (mu (r + 1) 1); rw [w0, w1]
  rw [ez] at B o3
  exact ⟨u, rk, wn, Look.mk R Lr.fu Lr.cl Lr.vl A1.st.leB A1.st.leL k1 k2 B o2 o3 ⟨R.so Lr.fu, by omega, by rw [w0, w1]; exact o1⟩ ⟨w0, w1⟩⟩
theorem Look.box {u : Int → Int} {rk : Int → Nat} {wn : Int → Int} (K : Look mu c p r u rk wn) {x : Int} (hx : InT (lay mu (c + 2)) x) :
    (pl mu p 4 (2 * x + 0) = zW mu r 7 (u x) ∧ pl mu p 4 (2 * x + 1) = zW mu r 8 (u x)) ∧ (pl mu p 5 (2 * x + 0) = zW mu r 9 (u x) ∧ pl mu p 5 (2 * x + 1) = zW mu r 10 (u x)) ∧ (pl mu p 6 (2 * x + 0) = zW mu r 11 (u x) ∧ pl mu p 6 (2 * x + 1) = zW mu r 12 (u x)) ∧ (isZ x → pl mu p 8 x = zW mu r 13 (u x) ∧ tgC (pl mu p) (lay mu (c + 2)) x = zW mu r 13 (u x)) :=
  same (f := mu (c + 1)) (w := mu c 0) (h := mu c 1) K.rl.wf K.fu K.leb K.lel K.vl K.rkk.1 K.rkk.2 K.pln K.bxi hx
end LK
