/-! the class's order of the nodes -/
def Ord (L Q : Mem) : Prop :=
  (0 ≤ Q 0 9 ∧ Q 0 9 ≤ 31) ∧
  (∀ k : Int, 0 ≤ k → k < Q 0 9 → InT L (Q 2 k)) ∧
  (∀ k l : Int, 0 ≤ k → k < Q 0 9 → 0 ≤ l → l < Q 0 9 → Q 2 k = Q 2 l → k = l) ∧
  (∀ x : Int, InT L x → ∃ k : Int, 0 ≤ k ∧ k < Q 0 9 ∧ Q 2 k = x) ∧
  (0 < Q 0 9 → L 2 47 = 1 ∧ Q 2 0 = mbrF L 47 0) ∧
  (Q 0 9 = 0 → L 2 47 = 0) ∧
  (∀ k : Int, 0 < k → k < Q 0 9 → isZ (L 0 (Q 2 k)) ∧ ∃ l : Int, 0 ≤ l ∧ l < k ∧ Q 2 l = L 0 (Q 2 k)) ∧
  (∀ k : Int, 0 ≤ k → k + 1 < Q 0 9 → Q 2 (k + 1) = suc L (Q 2 k)) ∧
  (0 < Q 0 9 → suc L (Q 2 (Q 0 9 - 1)) = -1) ∧
  (Q 0 10 = smG (fun k => if isZ (Q 2 k) then 1 else 0) (Q 0 9).toNat)
theorem Ord.n0 {L Q : Mem} (h9 : Ord L Q) : 0 ≤ Q 0 9 ∧ Q 0 9 ≤ 31 := h9.1
theorem Ord.rng {L Q : Mem} (h9 : Ord L Q) : ∀ k : Int, 0 ≤ k → k < Q 0 9 → InT L (Q 2 k) := h9.2.1
theorem Ord.inj {L Q : Mem} (h9 : Ord L Q) : ∀ k l : Int, 0 ≤ k → k < Q 0 9 → 0 ≤ l → l < Q 0 9 → Q 2 k = Q 2 l → k = l := h9.2.2.1
theorem Ord.all {L Q : Mem} (h9 : Ord L Q) : ∀ x : Int, InT L x → ∃ k : Int, 0 ≤ k ∧ k < Q 0 9 ∧ Q 2 k = x := h9.2.2.2.1
theorem Ord.root {L Q : Mem} (h9 : Ord L Q) : 0 < Q 0 9 → L 2 47 = 1 ∧ Q 2 0 = mbrF L 47 0 := h9.2.2.2.2.1
theorem Ord.none {L Q : Mem} (h9 : Ord L Q) : Q 0 9 = 0 → L 2 47 = 0 := h9.2.2.2.2.2.1
theorem Ord.par {L Q : Mem} (h9 : Ord L Q) : ∀ k : Int, 0 < k → k < Q 0 9 → isZ (L 0 (Q 2 k)) ∧ ∃ l : Int, 0 ≤ l ∧ l < k ∧ Q 2 l = L 0 (Q 2 k) := h9.2.2.2.2.2.2.1
theorem Ord.ch {L Q : Mem} (h9 : Ord L Q) : ∀ k : Int, 0 ≤ k → k + 1 < Q 0 9 → Q 2 (k + 1) = suc L (Q 2 k) := h9.2.2.2.2.2.2.2.1
theorem Ord.las {L Q : Mem} (h9 : Ord L Q) : 0 < Q 0 9 → suc L (Q 2 (Q 0 9 - 1)) = -1 := h9.2.2.2.2.2.2.2.2.1
theorem Ord.sp {L Q : Mem} (h9 : Ord L Q) : Q 0 10 = smG (fun k => if isZ (Q 2 k) then 1 else 0) (Q 0 9).toNat := h9.2.2.2.2.2.2.2.2.2
theorem Ord.mk {L Q : Mem} (h_n0 : 0 ≤ Q 0 9 ∧ Q 0 9 ≤ 31) (h_rng : ∀ k : Int, 0 ≤ k → k < Q 0 9 → InT L (Q 2 k)) (h_inj : ∀ k l : Int, 0 ≤ k → k < Q 0 9 → 0 ≤ l → l < Q 0 9 → Q 2 k = Q 2 l → k = l) (h_all : ∀ x : Int, InT L x → ∃ k : Int, 0 ≤ k ∧ k < Q 0 9 ∧ Q 2 k = x) (h_root : 0 < Q 0 9 → L 2 47 = 1 ∧ Q 2 0 = mbrF L 47 0) (h_none : Q 0 9 = 0 → L 2 47 = 0) (h_par : ∀ k : Int, 0 < k → k < Q 0 9 → isZ (L 0 (Q 2 k)) ∧ ∃ l : Int, 0 ≤ l ∧ l < k ∧ Q 2 l = L 0 (Q 2 k)) (h_ch : ∀ k : Int, 0 ≤ k → k + 1 < Q 0 9 → Q 2 (k + 1) = suc L (Q 2 k)) (h_las : 0 < Q 0 9 → suc L (Q 2 (Q 0 9 - 1)) = -1) (h_sp : Q 0 10 = smG (fun k => if isZ (Q 2 k) then 1 else 0) (Q 0 9).toNat) : Ord L Q := ⟨h_n0, h_rng, h_inj, h_all, h_root, h_none, h_par, h_ch, h_las, h_sp⟩
theorem InT.root {L : Mem} (W : Wf L (-1)) {x : Int} (h : InT L x) (e : L 0 x = 47) : L 2 47 = 1 ∧ mbrF L 47 0 = x := by
  have b := h.rg
  have r := W.mb.rng x (by omega) (by omega) (by omega)
  have w := W.win
  rw [e] at r
  have := mbrF_hit W.mb (h := 47) (t := x) ⟨by omega, by omega⟩ e (by omega)
  rw [show L 1 x = 0 by omega] at this
  exact ⟨by omega, this⟩
theorem LnI.allG {L Q : Mem} (W : Wf L (-1)) (I : LnI L Q 0) {r : Int → Nat} (hb : ∀ x : Int, r x ≤ 16) (hr : ∀ t : Int, 16 ≤ t → t < 47 → 32 ≤ L 0 t → L 0 t < 47 → r t < r (L 0 t)) : ∀ (n : Nat) (x : Int), 16 - r x ≤ n → InT L x → ∃ k : Int, 0 ≤ k ∧ k < Q 0 9 ∧ Q 2 k = x
  | n, x, hn, hx => by
    have b := hx.rg
    rcases hx.hol W with e | s
    · obtain ⟨r1, r2⟩ := hx.root W e
      rcases I.rt with ⟨a, c⟩ | ⟨a, c, d⟩
      · rcases c with ⟨-, c⟩ | ⟨c, -⟩ <;> omega
      · exact ⟨0, by omega, a, by rw [d, r2]⟩
    · have a3 := hr x b.1 b.2 s.1 s.2
      have a4 := hb (L 0 x)
      cases n with
      | zero => omega
      | succ n =>
        obtain ⟨k, k1, k2, k3⟩ := LnI.allG W I hb hr n (L 0 x) (by omega) (hx.par W s)
        rcases I.cl k k1 k2 (by rw [k3]; exact s) x (by omega) (by omega) k3.symm with h | ⟨l, l1, l2, -⟩
        · exact h
        · omega
theorem LnI.ord {L Q : Mem} (W : Wf L (-1)) (I : LnI L Q 0) : Ord L Q := by
  obtain ⟨r, hb, hr⟩ := W.rankB
  have le := I.le
  first | with_reducible refine Ord.mk ?_ ?_ ?_ ?_ ?_ ?_ ?_ ?_ ?_ ?_ | with_reducible refine LnI.mk ?_ ?_ ?_ ?_ ?_ ?_ ?_ ?_ ?_ ?_ ?_ ?_ ?_ ?_ ?_ ?_ ?_ | with_reducible refine Rl.mk ?_ ?_ ?_ ?_ ?_ ?_ ?_ ?_ ?_ ?_ ?_ ?_ ?_ | with_reducible refine Wf.mk ?_ ?_ ?_ ?_ ?_ ?_ ?_ ?_ ?_ ?_ ?_ | with_reducible refine Mb.mk ?_ ?_ ?_ ?_ ?_ | constructor
  · exact ⟨I.n0, by omega⟩
  · exact I.eT
  · exact I.ei
  · exact fun x hx => I.allG W hb hr _ x (Nat.le_refl _) hx
  · intro h
    rcases I.rt with ⟨a, -⟩ | ⟨a, b, c⟩
    · omega
    · exact ⟨b, c⟩
  · intro h
    rcases I.rt with ⟨a, b⟩ | ⟨a, b, c⟩
    · rcases b with ⟨-, b⟩ | ⟨b, -⟩
      · exact b
      · omega
    · omega
  · exact I.pe
  · exact I.ch
  · intro h
    have := I.la h
    rw [if_neg (by omega)] at this
    exact this
  · exact I.sp
theorem lnF_ord {P L : Mem} (W : Wf L (-1)) (F : Fu L) (hM : MoT P L) : Ord L (lnF P L) ∧ MoT (lnF P L) L ∧ (∀ (k : Nat) (i : Int), k ≠ 2 → k ≠ 3 → (k = 0 → i ≠ 9 ∧ i ≠ 10) → lnF P L k i = P k i) := by
  have w0 := W.mb.nng 47 (by omega) (by omega)
  have w1 := W.win
  have me := mo_e W F hM (h := 47) (i := 0) ⟨by omega, by omega⟩
  have mb : -1 ≤ mbrF L 47 0 ∧ mbrF L 47 0 < 49 := by
    by_cases c : (0 : Int) < L 2 47
    · have := (mbrF_get W.mb (h := 47) (i := 0) ⟨by omega, by omega⟩ ⟨by omega, c⟩).1; omega
    · rw [mbrF_out W.mb (by omega) (by omega)]; omega
  have eI : lnI P = up (up (up P 0 9 0) 0 10 0) 3 0 (mbrF L 47 0) := by
    unfold lnI
    rw [me, sK_in ⟨by omega, by omega⟩ (by decide) (by omega)]
  have i9 : lnI P 0 9 = 0 := by rw [eI, up_e, if_neg (by omega), up_e, if_neg (by omega), up_e, if_pos ⟨rfl, rfl⟩]
  have i10 : lnI P 0 10 = 0 := by rw [eI, up_e, if_neg (by omega), up_e, if_pos ⟨rfl, rfl⟩]
  have i3 : lnI P 3 0 = mbrF L 47 0 := by rw [eI, up_e, if_pos ⟨rfl, rfl⟩]
  have ik : ∀ (k : Nat) (i : Int), k ≠ 3 → (k = 0 → i ≠ 9 ∧ i ≠ 10) → lnI P k i = P k i := fun k i h1 h2 => by
    rw [eI, up_e, if_neg (by omega), up_e, if_neg (by omega), up_e, if_neg (by omega)]
  have I : LnI L (lnI P) (L 2 47) := by
    first | with_reducible refine Ord.mk ?_ ?_ ?_ ?_ ?_ ?_ ?_ ?_ ?_ ?_ | with_reducible refine LnI.mk ?_ ?_ ?_ ?_ ?_ ?_ ?_ ?_ ?_ ?_ ?_ ?_ ?_ ?_ ?_ ?_ ?_ | with_reducible refine Rl.mk ?_ ?_ ?_ ?_ ?_ ?_ ?_ ?_ ?_ ?_ ?_ ?_ ?_ | with_reducible refine Wf.mk ?_ ?_ ?_ ?_ ?_ ?_ ?_ ?_ ?_ ?_ ?_ | with_reducible refine Mb.mk ?_ ?_ ?_ ?_ ?_ | constructor
    · intro h i a b c d; rw [ik 1 _ (by omega) (by omega)]; exact hM h i a b c d
    · omega
    · omega
    · intro k h1 h2; omega
    · intro j h1 h2
      have : j = 0 := by omega
      subst this
      rw [i3]
      obtain ⟨a, b, -⟩ := mbrF_get W.mb (h := 47) (i := 0) ⟨by omega, by omega⟩ ⟨by omega, by omega⟩
      exact ⟨W.usd a (by omega), by omega⟩
    · intro k l h1 h2; omega
    · intro k l h1 h2 h3 h4 _; omega
    · intro k l h1 h2; omega
    · left
      refine ⟨i9, ?_⟩
      by_cases z : L 2 47 = 0
      · exact Or.inl ⟨z, z⟩
      · exact Or.inr ⟨by omega, by omega, i3⟩
    · intro k h1 h2; omega
    · intro k h1 h2; omega
    · intro j h1 h2 h3; omega
    · intro h
      rw [i3]
      obtain ⟨a, b, -⟩ := mbrF_get W.mb (h := 47) (i := 0) ⟨by omega, by omega⟩ ⟨by omega, by omega⟩
      rw [NXT_e W (W.mem a (by omega)), if_neg (by rw [b]; unfold isZ; omega)]
    · intro j h1 h2; omega
    · intro h; omega
    · intro k h1 h2; omega
    · rw [i10, i9]; rfl
  obtain ⟨a, b⟩ := lnG_end W F 31 (lnI P) (L 2 47) I (by omega)
  unfold lnF
  rw [gL_2 ⟨by omega, by omega⟩]
  exact ⟨a.ord W, a.mt, fun k i h1 h2 h3 => by rw [b k i h1 h2 h3, ik k i h2 h3]⟩
