/-! THE PAST: the ring of the class, the row of the reference -/
def Hy (N : Int) (mu : Mem) (h : Nat) (past : Int → Int) (np : Int) : Prop :=
  (mu h 1 = np ∧ 0 ≤ np ∧ np ≤ 4) ∧
  (0 ≤ mu h 2 ∧ mu h 2 < 4) ∧
  (∀ k : Nat, (k : Int) < np → RS N mu (h + 2 + 49 * ((mu h 2 - np + k) % 4).toNat) (fun i => past (1639 * k + i)))
theorem Hy.cnt {N : Int} {mu : Mem} {h : Nat} {past : Int → Int} {np : Int} (h9 : Hy N mu h past np) : mu h 1 = np ∧ 0 ≤ np ∧ np ≤ 4 := h9.1
theorem Hy.nxt {N : Int} {mu : Mem} {h : Nat} {past : Int → Int} {np : Int} (h9 : Hy N mu h past np) : 0 ≤ mu h 2 ∧ mu h 2 < 4 := h9.2.1
theorem Hy.sl {N : Int} {mu : Mem} {h : Nat} {past : Int → Int} {np : Int} (h9 : Hy N mu h past np) : ∀ k : Nat, (k : Int) < np → RS N mu (h + 2 + 49 * ((mu h 2 - np + k) % 4).toNat) (fun i => past (1639 * k + i)) := h9.2.2
theorem Hy.mk {N : Int} {mu : Mem} {h : Nat} {past : Int → Int} {np : Int} (h_cnt : mu h 1 = np ∧ 0 ≤ np ∧ np ≤ 4) (h_nxt : 0 ≤ mu h 2 ∧ mu h 2 < 4) (h_sl : ∀ k : Nat, (k : Int) < np → RS N mu (h + 2 + 49 * ((mu h 2 - np + k) % 4).toNat) (fun i => past (1639 * k + i))) : Hy N mu h past np := ⟨h_cnt, h_nxt, h_sl⟩
def pushP (past s : Int → Int) (np : Int) : Int → Int := fun i => if np = 4 then (if i < 4917 then past (i + 1639) else s (i - 4917)) else if 1639 * np ≤ i then s (i - 1639 * np) else past i
theorem pshM_row {mu : Mem} {c h : Nat} {x : Nat} (hx : h < x) (i : Int) : pshM mu c h x i = stC mu c (h + 2 + 49 * (mu h 2).toNat) x i := by
  unfold pshM
  rw [up_a _ _ _ _ (by omega), up_a _ _ _ _ (by omega)]
theorem pshM_12 {mu : Mem} {c h : Nat} (hn : 0 ≤ mu h 2 ∧ mu h 2 < 4) : pshM mu c h h 1 = min (mu h 1 + 1) 4 ∧ pshM mu c h h 2 = (if mu h 2 + 1 < 4 then mu h 2 + 1 else 0) := by
  unfold pshM
  have e : stC mu c (h + 2 + 49 * (mu h 2).toNat) h 1 = mu h 1 := stC_off (by omega) 1
  refine ⟨?_, ?_⟩
  · rw [up_e, if_pos ⟨rfl, rfl⟩]
  · rw [up_e, if_neg (by omega), up_e, if_pos ⟨rfl, rfl⟩]
theorem RS.push {N : Int} {mu : Mem} {c h : Nat} {s : Int → Int} (A : RS N mu c s) (hn : 0 ≤ mu h 2 ∧ mu h 2 < 4) (hch : c + 49 ≤ h) : RS N (pshM mu c h) c s :=
  A.off (fun x i h1 h2 => pshM_off hn (by omega) i) (fun _ _ _ => rfl)
theorem Hy.push {N : Int} {mu : Mem} {c h : Nat} {past s : Int → Int} {np : Int} (H : Hy N mu h past np) (A : RS N mu c s) (hch : c + 49 ≤ h) : Hy N (pshM mu c h) h (pushP past s np) (min (np + 1) 4) := by
  obtain ⟨⟨c1, c2, c3⟩, n, sl⟩ := H
  obtain ⟨e1, e2⟩ := pshM_12 (c := c) n
  have new : RS N (pshM mu c h) (h + 2 + 49 * (mu h 2).toNat) s := by
    have := A.cp (c := h + 2 + 49 * (mu h 2).toNat) (by omega)
    exact this.off (fun x i h1 h2 => pshM_row (by omega) i) (fun _ _ _ => rfl)
  have old : ∀ k : Nat, (k : Int) < np → (mu h 2 - np + k) % 4 ≠ mu h 2 → RS N (pshM mu c h) (h + 2 + 49 * ((mu h 2 - np + k) % 4).toNat) (fun i => past (1639 * k + i)) := by
    intro k hk hne
    have d1 : 0 ≤ (mu h 2 - np + k) % 4 ∧ (mu h 2 - np + k) % 4 < 4 := by omega
    refine (sl k hk).off (fun x i h1 h2 => ?_) (fun _ _ _ => rfl)
    rw [pshM_row (by omega)]
    exact stC_off (by omega) i
  first | with_reducible refine Hy.mk ?_ ?_ ?_ | with_reducible refine RS.mk ?_ ?_ ?_ ?_ ?_ ?_ ?_ ?_ | with_reducible refine LR.mk ?_ ?_ ?_ ?_ ?_ | with_reducible refine BxI.mk ?_ ?_ ?_ ?_ ?_ ?_ | with_reducible refine WkI.mk ?_ ?_ ?_ ?_ ?_ ?_ | with_reducible refine PlE.mk ?_ ?_ ?_ ?_ ?_ | with_reducible refine Pl0.mk ?_ ?_ ?_ ?_ | with_reducible refine Tp.mk ?_ ?_ | with_reducible refine Vl.mk ?_ ?_ | with_reducible refine Lk.mk ?_ | with_reducible refine RfQ.mk ?_ ?_ ?_ ?_ | with_reducible refine ShQ.mk ?_ ?_ ?_ ?_ | with_reducible refine Que.mk ?_ ?_ ?_ ?_ ?_ ?_ ?_ ?_ | with_reducible refine QuI.mk ?_ ?_ ?_ ?_ ?_ ?_ | with_reducible refine Ord.mk ?_ ?_ ?_ ?_ ?_ ?_ ?_ ?_ ?_ ?_ | with_reducible refine LnI.mk ?_ ?_ ?_ ?_ ?_ ?_ ?_ ?_ ?_ ?_ ?_ ?_ ?_ ?_ ?_ ?_ ?_ | with_reducible refine Rl.mk ?_ ?_ ?_ ?_ ?_ ?_ ?_ ?_ ?_ ?_ ?_ ?_ ?_ | with_reducible refine Wf.mk ?_ ?_ ?_ ?_ ?_ ?_ ?_ ?_ ?_ ?_ ?_ | with_reducible refine Mb.mk ?_ ?_ ?_ ?_ ?_ | constructor
  · rw [e1, c1]; exact ⟨rfl, by omega, by omega⟩
  · rw [e2]; omega
  · intro k hk
    rw [e2]
    by_cases z : np = 4
    · subst z
      by_cases y : k = 3
      · subst y
        rw [show ((if mu h 2 + 1 < 4 then mu h 2 + 1 else 0) - min (4 + 1) 4 + ((3 : Nat) : Int)) % 4 = mu h 2 by split <;> omega]
        refine new.off (fun _ _ _ _ => rfl) (fun i h1 h2 => ?_)
        unfold pushP
        rw [if_pos rfl, if_neg (by omega)]
        congr 1
        omega
      · rw [show ((if mu h 2 + 1 < 4 then mu h 2 + 1 else 0) - min (4 + 1) 4 + (k : Int)) % 4 = (mu h 2 - 4 + ((k + 1 : Nat) : Int)) % 4 by split <;> omega]
        refine (old (k + 1) (by omega) (by omega)).off (fun _ _ _ _ => rfl) (fun i h1 h2 => ?_)
        unfold pushP
        rw [if_pos rfl, if_pos (by omega)]
        congr 1
        omega
    · by_cases y : (k : Int) = np
      · rw [show ((if mu h 2 + 1 < 4 then mu h 2 + 1 else 0) - min (np + 1) 4 + (k : Int)) % 4 = mu h 2 by split <;> omega]
        refine new.off (fun _ _ _ _ => rfl) (fun i h1 h2 => ?_)
        unfold pushP
        rw [if_neg z, if_pos (by omega)]
        congr 1
        omega
      · rw [show ((if mu h 2 + 1 < 4 then mu h 2 + 1 else 0) - min (np + 1) 4 + (k : Int)) % 4 = (mu h 2 - np + k) % 4 by split <;> omega]
        refine (old k (by omega) (by omega)).off (fun _ _ _ _ => rfl) (fun i h1 h2 => ?_)
        unfold pushP
        rw [if_neg z, if_neg (by omega)]
/-- undo -/
theorem popM_row {mu : Mem} {c h : Nat} {x : Nat} (hx : x < h ∨ h < x) (i : Int) : popM mu c h x i = stC mu (h + 2 + 49 * (popJ mu h).toNat) c x i := by
  unfold popM
  rw [up_a _ _ _ _ (by omega), up_a _ _ _ _ (by omega)]
theorem popM_12 {mu : Mem} {c h : Nat} : popM mu c h h 1 = mu h 1 - 1 ∧ popM mu c h h 2 = popJ mu h := by
  unfold popM
  refine ⟨?_, ?_⟩
  · rw [up_e, if_pos ⟨rfl, rfl⟩]
  · rw [up_e, if_neg (by omega), up_e, if_pos ⟨rfl, rfl⟩]
theorem popJ_e {mu : Mem} {h : Nat} (n : 0 ≤ mu h 2 ∧ mu h 2 < 4) : 0 ≤ popJ mu h ∧ popJ mu h < 4 ∧ popJ mu h = (mu h 2 - 1) % 4 := by
  unfold popJ
  split <;> omega
theorem Hy.pop {N : Int} {mu : Mem} {c h : Nat} {past : Int → Int} {np : Int} (H : Hy N mu h past np) (hch : c + 49 ≤ h) (hp : 0 < np) : Hy N (popM mu c h) h past (np - 1) ∧ RS N (popM mu c h) c (fun i => past (1639 * (np - 1) + i)) := by
  obtain ⟨⟨c1, c2, c3⟩, n, sl⟩ := H
  obtain ⟨e1, e2⟩ := popM_12 (mu := mu) (c := c) (h := h)
  obtain ⟨j1, j2, j3⟩ := popJ_e n
  refine ⟨?_, ?_⟩
  · first | with_reducible refine Hy.mk ?_ ?_ ?_ | with_reducible refine RS.mk ?_ ?_ ?_ ?_ ?_ ?_ ?_ ?_ | with_reducible refine LR.mk ?_ ?_ ?_ ?_ ?_ | with_reducible refine BxI.mk ?_ ?_ ?_ ?_ ?_ ?_ | with_reducible refine WkI.mk ?_ ?_ ?_ ?_ ?_ ?_ | with_reducible refine PlE.mk ?_ ?_ ?_ ?_ ?_ | with_reducible refine Pl0.mk ?_ ?_ ?_ ?_ | with_reducible refine Tp.mk ?_ ?_ | with_reducible refine Vl.mk ?_ ?_ | with_reducible refine Lk.mk ?_ | with_reducible refine RfQ.mk ?_ ?_ ?_ ?_ | with_reducible refine ShQ.mk ?_ ?_ ?_ ?_ | with_reducible refine Que.mk ?_ ?_ ?_ ?_ ?_ ?_ ?_ ?_ | with_reducible refine QuI.mk ?_ ?_ ?_ ?_ ?_ ?_ | with_reducible refine Ord.mk ?_ ?_ ?_ ?_ ?_ ?_ ?_ ?_ ?_ ?_ | with_reducible refine LnI.mk ?_ ?_ ?_ ?_ ?_ ?_ ?_ ?_ ?_ ?_ ?_ ?_ ?_ ?_ ?_ ?_ ?_ | with_reducible refine Rl.mk ?_ ?_ ?_ ?_ ?_ ?_ ?_ ?_ ?_ ?_ ?_ ?_ ?_ | with_reducible refine Wf.mk ?_ ?_ ?_ ?_ ?_ ?_ ?_ ?_ ?_ ?_ ?_ | with_reducible refine Mb.mk ?_ ?_ ?_ ?_ ?_ | constructor
    · rw [e1, c1]; exact ⟨rfl, by omega, by omega⟩
    · rw [e2]; exact ⟨j1, j2⟩
    · intro k hk
      rw [e2, show (popJ mu h - (np - 1) + (k : Int)) % 4 = (mu h 2 - np + k) % 4 by omega]
      refine (sl k (by omega)).off (fun x i h1 h2 => ?_) (fun _ _ _ => rfl)
      rw [popM_row (by omega)]
      exact stC_off (by omega) i
  · have := sl (np - 1).toNat (by omega)
    rw [show (mu h 2 - np + ((np - 1).toNat : Int)) % 4 = popJ mu h by omega] at this
    refine (this.cp (c := c) (by omega)).off (fun x i h1 h2 => popM_row (by omega) i) (fun i h1 h2 => ?_)
    show past _ = past _
    congr 1
    omega
theorem Hy.off {N : Int} {mu mu' : Mem} {h : Nat} {past past' : Int → Int} {np : Int} (H : Hy N mu h past np) (e : ∀ (x : Nat) (i : Int), h ≤ x → x < h + 198 → mu' x i = mu x i) (hs : ∀ i : Int, 0 ≤ i → i < 1639 * np → past' i = past i) : Hy N mu' h past' np := by
  obtain ⟨⟨c1, c2, c3⟩, n, sl⟩ := H
  first | with_reducible refine Hy.mk ?_ ?_ ?_ | with_reducible refine RS.mk ?_ ?_ ?_ ?_ ?_ ?_ ?_ ?_ | with_reducible refine LR.mk ?_ ?_ ?_ ?_ ?_ | with_reducible refine BxI.mk ?_ ?_ ?_ ?_ ?_ ?_ | with_reducible refine WkI.mk ?_ ?_ ?_ ?_ ?_ ?_ | with_reducible refine PlE.mk ?_ ?_ ?_ ?_ ?_ | with_reducible refine Pl0.mk ?_ ?_ ?_ ?_ | with_reducible refine Tp.mk ?_ ?_ | with_reducible refine Vl.mk ?_ ?_ | with_reducible refine Lk.mk ?_ | with_reducible refine RfQ.mk ?_ ?_ ?_ ?_ | with_reducible refine ShQ.mk ?_ ?_ ?_ ?_ | with_reducible refine Que.mk ?_ ?_ ?_ ?_ ?_ ?_ ?_ ?_ | with_reducible refine QuI.mk ?_ ?_ ?_ ?_ ?_ ?_ | with_reducible refine Ord.mk ?_ ?_ ?_ ?_ ?_ ?_ ?_ ?_ ?_ ?_ | with_reducible refine LnI.mk ?_ ?_ ?_ ?_ ?_ ?_ ?_ ?_ ?_ ?_ ?_ ?_ ?_ ?_ ?_ ?_ ?_ | with_reducible refine Rl.mk ?_ ?_ ?_ ?_ ?_ ?_ ?_ ?_ ?_ ?_ ?_ ?_ ?_ | with_reducible refine Wf.mk ?_ ?_ ?_ ?_ ?_ ?_ ?_ ?_ ?_ ?_ ?_ | with_reducible refine Mb.mk ?_ ?_ ?_ ?_ ?_ | constructor
  · rw [e _ _ (by omega) (by omega)]; exact ⟨c1, c2, c3⟩
  · rw [e _ _ (by omega) (by omega)]; exact n
  · intro k hk
    rw [e _ _ (by omega) (by omega)]
    exact (sl k hk).off (fun x i h1 h2 => e _ _ (by omega) (by omega)) (fun i h1 h2 => hs _ (by omega) (by omega))
theorem Hy.mono {N M : Int} {mu : Mem} {h : Nat} {past : Int → Int} {np : Int} (H : Hy N mu h past np) (hN : N ≤ M) : Hy M mu h past np := by
  obtain ⟨a, b, sl⟩ := H
  first | with_reducible refine Hy.mk ?_ ?_ ?_ | with_reducible refine RS.mk ?_ ?_ ?_ ?_ ?_ ?_ ?_ ?_ | with_reducible refine LR.mk ?_ ?_ ?_ ?_ ?_ | with_reducible refine BxI.mk ?_ ?_ ?_ ?_ ?_ ?_ | with_reducible refine WkI.mk ?_ ?_ ?_ ?_ ?_ ?_ | with_reducible refine PlE.mk ?_ ?_ ?_ ?_ ?_ | with_reducible refine Pl0.mk ?_ ?_ ?_ ?_ | with_reducible refine Tp.mk ?_ ?_ | with_reducible refine Vl.mk ?_ ?_ | with_reducible refine Lk.mk ?_ | with_reducible refine RfQ.mk ?_ ?_ ?_ ?_ | with_reducible refine ShQ.mk ?_ ?_ ?_ ?_ | with_reducible refine Que.mk ?_ ?_ ?_ ?_ ?_ ?_ ?_ ?_ | with_reducible refine QuI.mk ?_ ?_ ?_ ?_ ?_ ?_ | with_reducible refine Ord.mk ?_ ?_ ?_ ?_ ?_ ?_ ?_ ?_ ?_ ?_ | with_reducible refine LnI.mk ?_ ?_ ?_ ?_ ?_ ?_ ?_ ?_ ?_ ?_ ?_ ?_ ?_ ?_ ?_ ?_ ?_ | with_reducible refine Rl.mk ?_ ?_ ?_ ?_ ?_ ?_ ?_ ?_ ?_ ?_ ?_ ?_ ?_ | with_reducible refine Wf.mk ?_ ?_ ?_ ?_ ?_ ?_ ?_ ?_ ?_ ?_ ?_ | with_reducible refine Mb.mk ?_ ?_ ?_ ?_ ?_ | constructor
  · exact a
  · exact b
  · exact fun k hk => (sl k hk).mono hN
/-! bounds of whole rows -/
def BA (N : Int) (A : Nat → Prop) (mu : Mem) : Prop := ∀ (x : Nat) (i : Int), A x → -N ≤ mu x i ∧ mu x i ≤ N
theorem BA.up {N : Int} {A : Nat → Prop} {mu : Mem} (h : BA N A mu) (x : Nat) (i : Int) {v : Int} (hv : A x → -N ≤ v ∧ v ≤ N) : BA N A (up mu x i v) := fun y j hy => by
  rw [up_e]
  by_cases z : y = x ∧ j = i
  · rw [if_pos z]; exact hv (z.1 ▸ hy)
  · rw [if_neg z]; exact h y j hy
theorem BA.cpF {N : Int} {A : Nat → Prop} {mu : Mem} (h : BA N A mu) {a b m : Nat} (ha : A b → A a) : BA N A (cpF mu a b m) := fun y j hy => by
  show -N ≤ (if _ then _ else _) ∧ (if _ then _ else _) ≤ N
  by_cases z : y = b ∧ 0 ≤ j ∧ j < m
  · rw [if_pos z]; exact h a j (ha (z.1 ▸ hy))
  · rw [if_neg z]; exact h y j hy
theorem BA.cp8 {N : Int} {A : Nat → Prop} {mu : Mem} (h : BA N A mu) {a b : Nat} (ha : ∀ k, k < 8 → A (b + 1 + k) → A (a + 1 + k)) : ∀ m : Nat, m ≤ 8 → BA N A (cp8 mu a b m)
  | 0, _ => h
  | m + 1, hm => by
    have := h.cp8 ha m (by omega)
    rw [Jvm.Pilot.CDockTreeLaw_law_r5321_3fbd41.cp8]
    exact this.cpF (ha m (by omega))
theorem BA.stC {N : Int} {A : Nat → Prop} {mu : Mem} (h : BA N A mu) {d c : Nat} (ha : ∀ k, k < 49 → A (c + k) → A (d + k)) : BA N A (stC mu d c) := by
  have h3 : BA N A (cp3 mu d c) := by
    unfold cp3
    have := ha 0 (by omega)
    exact ((h.up _ _ (fun q => h _ _ (this q))).up _ _ (fun q => h _ _ (this q))).up _ _ (fun q => h _ _ (this q))
  have hA : BA N A (stA mu d c) := by
    unfold stA
    refine (((h3.cpF (ha 1 (by omega))).cp8 (fun k hk q => ?_) 8 (by omega))).cpF (ha 12 (by omega))
    have := ha (3 + k) (by omega)
    rw [show c + 2 + 1 + k = c + (3 + k) by omega] at q
    rw [show d + 2 + 1 + k = d + (3 + k) by omega]
    exact this q
  have hK : ∀ j : Nat, j ≤ 4 → BA N A (stK mu d c j) := by
    intro j
    induction j with
    | zero => exact fun _ => hA
    | succ j ih =>
      intro hj
      have ih := ih (by omega)
      rw [stK]
      split
      · refine ih.cp8 (fun k hk q => ?_) 8 (by omega)
        have := ha (14 + 9 * j + k) (by omega)
        rw [show c + 13 + 9 * j + 1 + k = c + (14 + 9 * j + k) by omega] at q
        rw [show d + 13 + 9 * j + 1 + k = d + (14 + 9 * j + k) by omega]
        exact this q
      · exact ih
  exact hK 4 (by omega)
/-- the rows of the class that hold states and layouts -/
def rowsC (c h b : Nat) (x : Nat) : Prop := (c ≤ x ∧ x < c + 49) ∨ (h + 2 ≤ x ∧ x < h + 198) ∨ (b ≤ x ∧ x < b + 9)
theorem BA.push {N : Int} {mu : Mem} {c h b : Nat} (B : BA N (rowsC c h b) mu) (n : 0 ≤ mu h 2 ∧ mu h 2 < 4) (hch : c + 49 ≤ h) (hb : h + 198 ≤ b) : BA N (rowsC c h b) (pshM mu c h) := by
  intro x i hx
  have hxh : x ≠ h := by unfold rowsC at hx; omega
  have := B.stC (d := c) (c := h + 2 + 49 * (mu h 2).toNat) (fun k hk _ => Or.inl ⟨by omega, by omega⟩) x i hx
  unfold pshM
  rw [up_a _ _ _ _ hxh, up_a _ _ _ _ hxh]
  exact this
theorem BA.pop {N : Int} {mu : Mem} {c h b : Nat} (B : BA N (rowsC c h b) mu) (n : 0 ≤ mu h 2 ∧ mu h 2 < 4) (hch : c + 49 ≤ h) (hb : h + 198 ≤ b) : BA N (rowsC c h b) (popM mu c h) := by
  intro x i hx
  have hxh : x ≠ h := by unfold rowsC at hx; omega
  obtain ⟨j1, j2, j3⟩ := popJ_e n
  have := B.stC (d := h + 2 + 49 * (popJ mu h).toNat) (c := c) (fun k hk _ => Or.inr (Or.inl ⟨by omega, by omega⟩)) x i hx
  unfold popM
  rw [up_a _ _ _ _ hxh, up_a _ _ _ _ hxh]
  exact this
theorem BA.lay {N : Int} {mu : Mem} {A : Nat → Prop} (B : BA N A mu) (hN : 0 ≤ N) {b : Nat} (hA : ∀ k, k < 8 → A (b + 1 + k)) : Bd N (lay mu b) := fun k i => by
  unfold Jvm.Pilot.CDockTreeLaw_law_r5321_3fbd41.lay
  by_cases z : k ≤ 7
  · rw [if_pos z]; exact B _ _ (hA k (by omega))
  · rw [if_neg z]; omega
theorem BA.putL {N : Int} {mu L : Mem} {A : Nat → Prop} (B : BA N A mu) {b : Nat} (hL : Bd N L) : BA N A (putL mu b L) := fun x i hx => by
  show -N ≤ (if _ then _ else _) ∧ (if _ then _ else _) ≤ N
  by_cases z : b + 1 ≤ x ∧ x ≤ b + 8
  · rw [if_pos z]; exact hL _ _
  · rw [if_neg z]; exact B x i hx
theorem BA.off {N : Int} {mu mu' : Mem} {A : Nat → Prop} (B : BA N A mu) (e : ∀ (x : Nat) (i : Int), A x → mu' x i = mu x i) : BA N A mu' := fun x i hx => by rw [e x i hx]; exact B x i hx
theorem BA.mono {N M : Int} {mu : Mem} {A : Nat → Prop} (B : BA N A mu) (h : N ≤ M) : BA M A mu := fun x i hx => by have := B x i hx; omega
