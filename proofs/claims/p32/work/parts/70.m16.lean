/-! the order of the nodes: a step, and the end -/
def lnC (L Q : Mem) (o : Int) : Int := if isZ (Q 3 (o - 1)) then L 2 (Q 3 (o - 1)) else 0
def lnQ (L Q : Mem) (o : Int) : Mem := fun k i => if k = 2 ∧ i = Q 0 9 then Q 3 (o - 1) else if k = 3 ∧ o - 1 ≤ i ∧ i < o - 1 + lnC L Q o then mbrF L (Q 3 (o - 1)) (lnC L Q o - 1 - (i - (o - 1))) else
  if k = 0 ∧ i = 9 then Q 0 9 + 1 else if k = 0 ∧ i = 10 then Q 0 10 + (if isZ (Q 3 (o - 1)) then 1 else 0) else Q k i
theorem LnI.step {L Q : Mem} {o : Int} (W : Wf L (-1)) (F : Fu L) (I : LnI L Q o) (ho : 0 < o) : LnI L (lnQ L Q o) (o - 1 + lnC L Q o) := by
  have n0 := I.n0
  have hnd := I.wT (o - 1) (by omega) (by omega)
  have rnd := hnd.rg
  have nd0 : L 0 (Q 3 (o - 1)) ≠ -1 := by have := hnd.1.2; omega
  have fn := (F _ rnd.1 rnd.2).2 nd0
  have hew := fun k h1 h2 => I.ew k (o - 1) h1 h2 (by omega) (by omega)
  have hs0 := I.s0 ho
  have hs1 := I.s1 (o - 1)
  have hpw := I.pw (o - 1) (by omega) (by omega)
  have hla := I.la
  have q2 : ∀ k : Int, lnQ L Q o 2 k = if k = Q 0 9 then Q 3 (o - 1) else Q 2 k := fun k => by
    unfold lnQ; by_cases z : k = Q 0 9 <;> simp [z]
  have q3 : ∀ k : Int, lnQ L Q o 3 k = if o - 1 ≤ k ∧ k < o - 1 + lnC L Q o then mbrF L (Q 3 (o - 1)) (lnC L Q o - 1 - (k - (o - 1))) else Q 3 k := fun k => by
    unfold lnQ; simp
  have q9 : lnQ L Q o 0 9 = Q 0 9 + 1 := by unfold lnQ; simp
  have q10 : lnQ L Q o 0 10 = Q 0 10 + (if isZ (Q 3 (o - 1)) then 1 else 0) := by unfold lnQ; simp
  have q1 : ∀ k : Int, lnQ L Q o 1 k = Q 1 k := fun k => by unfold lnQ; simp
  have hc : lnC L Q o = if isZ (Q 3 (o - 1)) then L 2 (Q 3 (o - 1)) else 0 := rfl
  generalize lnC L Q o = c at *
  generalize hX : lnQ L Q o = X at *
  generalize hn : Q 3 (o - 1) = nd at *
  generalize hN : Q 0 9 = n at *
  have cz : 0 ≤ c := by rw [hc]; split <;> omega
  have cs : 0 < c → isZ nd := by intro h; rw [hc] at h; split at h <;> first | assumption | omega
  have kid : ∀ j : Int, 0 ≤ j → j < c → (0 ≤ mbrF L nd j ∧ mbrF L nd j < 49) ∧ L 0 (mbrF L nd j) = nd ∧ L 1 (mbrF L nd j) = j := by
    intro j h1 h2
    have z := cs (by omega)
    rw [if_pos z] at hc
    exact mbrF_get W.mb ⟨by omega, by omega⟩ ⟨h1, by omega⟩
  have kT : ∀ j : Int, 0 ≤ j → j < c → InT L (mbrF L nd j) := by
    intro j h1 h2
    obtain ⟨a, b, -⟩ := kid j h1 h2
    exact InT.kid W (cs (by omega)) a b
  have kN : ∀ j : Int, 0 ≤ j → j < c → NXT L (mbrF L nd j) = if j + 1 < c then mbrF L nd (j + 1) else NXT L nd := by
    intro j h1 h2
    obtain ⟨a, b, d⟩ := kid j h1 h2
    have z := cs (by omega)
    have hc' := hc
    rw [if_pos z] at hc'
    rw [NXT_e W (kT j h1 h2).rg, b, d, if_pos z, hc']
  have nself : L 0 nd ≠ nd := by
    intro e
    obtain ⟨r, hr⟩ := W.rank
    have z : isZ nd ∨ ¬ isZ nd := Decidable.em _
    rcases z with z | z
    · have := hr nd rnd.1 rnd.2 (by rw [e]; exact z.1) (by rw [e]; exact z.2)
      rw [e] at this; omega
    · have := hnd.hol W; rw [e] at this; unfold isZ at z this; omega
  have nokid : ∀ k : Int, 0 ≤ k → k < n → L 0 (Q 2 k) ≠ nd := by
    intro k h1 h2 e
    by_cases k0 : k = 0
    · rcases I.rt with ⟨a, -⟩ | ⟨-, a, b⟩
      · omega
      · subst k0
        have := (mbrF_get W.mb (h := 47) (i := 0) ⟨by omega, by omega⟩ ⟨by omega, by omega⟩).2.1
        rw [← b, e] at this; omega
    · obtain ⟨-, l, l1, l2, l3⟩ := I.pe k (by omega) (by omega)
      exact hew l l1 (by omega) (by rw [l3, e])
  have nokidW : ∀ j : Int, 0 ≤ j → j < o - 1 → L 0 (Q 3 j) ≠ nd := by
    intro j h1 h2 e
    rcases I.rt with ⟨a, b⟩ | ⟨a, -⟩
    · omega
    · obtain ⟨-, l, l1, l2, l3⟩ := I.pw j h1 (by omega) (by omega)
      exact hew l l1 (by omega) (by rw [l3, e])
  have oldW : ∀ k : Int, 0 ≤ k → k < o - 1 → X 3 k = Q 3 k := fun k h1 h2 => by rw [q3, if_neg (by omega)]
  have newW : ∀ k : Int, o - 1 ≤ k → k < o - 1 + c → X 3 k = mbrF L nd (c - 1 - (k - (o - 1))) := fun k h1 h2 => by rw [q3, if_pos ⟨h1, h2⟩]
  have oldE : ∀ k : Int, k < n → X 2 k = Q 2 k := fun k h => by rw [q2, if_neg (by omega)]
  have newE : X 2 n = nd := by rw [q2, if_pos rfl]
  first | with_reducible refine LnI.mk ?_ ?_ ?_ ?_ ?_ ?_ ?_ ?_ ?_ ?_ ?_ ?_ ?_ ?_ ?_ ?_ ?_ | with_reducible refine Rl.mk ?_ ?_ ?_ ?_ ?_ ?_ ?_ ?_ ?_ ?_ ?_ ?_ ?_ | with_reducible refine Wf.mk ?_ ?_ ?_ ?_ ?_ ?_ ?_ ?_ ?_ ?_ ?_ | with_reducible refine Mb.mk ?_ ?_ ?_ ?_ ?_ | constructor
  · intro h i a b d e; rw [q1]; exact I.mt h i a b d e
  · omega
  · omega
  · intro k h1 h2
    rw [q9] at h2
    by_cases z : k = n
    · rw [z, newE]; exact hnd
    · rw [oldE k (by omega)]; exact I.eT k h1 (by omega)
  · intro j h1 h2
    by_cases z : j < o - 1
    · rw [oldW j h1 z]; exact I.wT j h1 (by omega)
    · rw [newW j (by omega) h2]; exact kT _ (by omega) (by omega)
  · intro k l h1 h2 h3 h4 e
    rw [q9] at h2 h4
    by_cases z : k = n
    · by_cases y : l = n
      · omega
      · rw [z, newE, oldE l (by omega)] at e; exact absurd e.symm (hew l h3 (by omega))
    · by_cases y : l = n
      · rw [y, newE, oldE k (by omega)] at e; exact absurd e (hew k h1 (by omega))
      · rw [oldE k (by omega), oldE l (by omega)] at e; exact I.ei k l h1 (by omega) h3 (by omega) e
  · intro k l h1 h2 h3 h4 e
    by_cases z : k < o - 1
    · by_cases y : l < o - 1
      · rw [oldW k h1 z, oldW l h3 y] at e; exact I.wi k l h1 (by omega) h3 (by omega) e
      · rw [oldW k h1 z, newW l (by omega) h4] at e
        have := nokidW k h1 z
        rw [e] at this
        exact absurd (kid _ (by omega) (by omega)).2.1 this
    · by_cases y : l < o - 1
      · rw [newW k (by omega) h2, oldW l h3 y] at e
        have := nokidW l h3 y
        rw [← e] at this
        exact absurd (kid _ (by omega) (by omega)).2.1 this
      · rw [newW k (by omega) h2, newW l (by omega) h4] at e
        have a := (kid (c - 1 - (k - (o - 1))) (by omega) (by omega)).2.2
        have b := (kid (c - 1 - (l - (o - 1))) (by omega) (by omega)).2.2
        rw [e] at a
        omega
  · intro k l h1 h2 h3 h4 e
    rw [q9] at h2
    by_cases z : k = n
    · rw [z, newE] at e
      by_cases y : l < o - 1
      · rw [oldW l h3 y, ← hn] at e
        have := I.wi (o - 1) l (by omega) (by omega) h3 (by omega) e
        omega
      · rw [newW l (by omega) h4] at e
        have := (kid (c - 1 - (l - (o - 1))) (by omega) (by omega)).2.1
        rw [← e] at this
        exact nself this
    · rw [oldE k (by omega)] at e
      by_cases y : l < o - 1
      · rw [oldW l h3 y] at e; exact I.ew k l h1 (by omega) h3 (by omega) e
      · rw [newW l (by omega) h4] at e
        have := (kid (c - 1 - (l - (o - 1))) (by omega) (by omega)).2.1
        rw [← e] at this
        exact nokid k h1 (by omega) this
  · right
    refine ⟨by omega, ?_⟩
    rcases I.rt with ⟨a, b⟩ | ⟨a, b, d⟩
    · rcases b with b | ⟨b1, b2, b3⟩
      · omega
      · refine ⟨b2, ?_⟩
        rw [hN] at a
        rw [← b3, q2, if_pos (by omega), ← hn, b1]
        rfl
    · exact ⟨b, by rw [oldE 0 (by omega)]; exact d⟩
  · intro k h1 h2 hs t t1 t2 t3
    rw [q9] at h2
    by_cases z : k = n
    · rw [z, newE] at hs t3
      have hc' := hc
      rw [if_pos hs] at hc'
      have rg := W.mb.rng t t1 t2 (by unfold isZ at hs; omega)
      rw [t3] at rg
      right
      refine ⟨o - 1 + (c - 1 - L 1 t), by omega, by omega, ?_⟩
      rw [newW _ (by omega) (by omega), show c - 1 - (o - 1 + (c - 1 - L 1 t) - (o - 1)) = L 1 t by omega]
      exact mbrF_hit W.mb ⟨t1, t2⟩ t3 (by omega)
    · rw [oldE k (by omega)] at hs t3
      rcases I.cl k h1 (by omega) hs t t1 t2 t3 with ⟨l, l1, l2, l3⟩ | ⟨l, l1, l2, l3⟩
      · exact Or.inl ⟨l, l1, by omega, by rw [oldE l (by omega)]; exact l3⟩
      · by_cases y : l = o - 1
        · refine Or.inl ⟨n, by omega, by omega, ?_⟩
          rw [newE, ← hn, ← y, l3]
        · exact Or.inr ⟨l, l1, by omega, by rw [oldW l l1 (by omega)]; exact l3⟩
  · intro k h1 h2
    rw [q9] at h2
    by_cases z : k = n
    · rw [z, newE]
      obtain ⟨a, l, l1, l2, l3⟩ := hpw (by omega)
      exact ⟨a, l, l1, by omega, by rw [oldE l (by omega)]; exact l3⟩
    · obtain ⟨a, l, l1, l2, l3⟩ := I.pe k h1 (by omega)
      rw [oldE k (by omega)]
      exact ⟨a, l, l1, l2, by rw [oldE l (by omega)]; exact l3⟩
  · intro j h1 h2 _
    by_cases z : j < o - 1
    · rw [oldW j h1 z]
      rcases I.rt with ⟨a, b⟩ | ⟨a, -⟩
      · omega
      · obtain ⟨d, l, l1, l2, l3⟩ := I.pw j h1 (by omega) (by omega)
        exact ⟨d, l, l1, by omega, by rw [oldE l (by omega)]; exact l3⟩
    · rw [newW j (by omega) h2]
      obtain ⟨a, b, -⟩ := kid (c - 1 - (j - (o - 1))) (by omega) (by omega)
      rw [b]
      exact ⟨cs (by omega), n, by omega, by omega, newE⟩
  · intro h
    by_cases z : 0 < o - 1
    · rw [oldW 0 (by omega) z]; exact I.s0 (by omega)
    · rw [newW 0 (by omega) h, kN _ (by omega) (by omega), if_neg (by omega), ← hn, show o - 1 = 0 by omega]
      exact hs0
  · intro j h1 h2
    by_cases z : j < o - 1
    · rw [oldW j (by omega) z, oldW (j - 1) (by omega) (by omega)]; exact I.s1 j h1 (by omega)
    · rw [newW j (by omega) h2, kN _ (by omega) (by omega)]
      by_cases y : j = o - 1
      · rw [if_neg (by omega), y, oldW (o - 1 - 1) (by omega) (by omega)]
        exact hs1 (by omega) (by omega)
      · rw [if_pos (by omega), newW (j - 1) (by omega) (by omega)]
        congr 1
        omega
  · intro _
    rw [q9, show n + 1 - 1 = n by omega, newE]
    unfold suc
    by_cases z : isZ nd
    · rw [if_pos z]
      rw [if_pos z] at hc
      have c1 : 0 < c := by have := fn.1; omega
      rw [if_pos (by omega), newW _ (by omega) (by omega)]
      congr 1
      omega
    · rw [if_neg z]
      rw [if_neg z] at hc
      by_cases y : 0 < o - 1
      · rw [if_pos (by omega), oldW (o - 1 + c - 1) (by omega) (by omega), show o - 1 + c - 1 = o - 1 - 1 by omega]
        exact hs1 (by omega) (by omega)
      · rw [if_neg (by omega), ← hn, show o - 1 = 0 by omega]
        exact hs0
  · intro k h1 h2
    rw [q9] at h2
    by_cases z : k + 1 = n
    · have := hla (by omega)
      rw [if_pos ho, show n - 1 = k by omega] at this
      rw [z, newE, oldE k (by omega), this]
    · rw [oldE (k + 1) (by omega), oldE k (by omega)]; exact I.ch k h1 (by omega)
  · have e : smG (fun k => if isZ (X 2 k) then 1 else 0) n.toNat = smG (fun k => if isZ (Q 2 k) then 1 else 0) n.toNat := smG_ext _ (fun k h1 h2 => by show (if isZ (X 2 k) then (1 : Int) else 0) = _; rw [oldE k (by omega)])
    have s := I.sp
    rw [hN] at s
    rw [q10, q9, show (n + 1).toNat = n.toNat + 1 by omega]
    show _ = smG _ n.toNat + (if isZ (X 2 (n.toNat : Int)) then 1 else 0)
    rw [e, ← s, show ((n.toNat : Nat) : Int) = n by omega, newE]
theorem lnS_e {L Q : Mem} {o : Int} (W : Wf L (-1)) (F : Fu L) (I : LnI L Q o) (ho : 0 < o) : lnS L Q (o - 1) = (lnQ L Q o, o - 1 + lnC L Q o) := by
  have le := (I.step W F ho).le
  have le0 := I.le
  have n0 := I.n0
  have rnd := (I.wT (o - 1) (by omega) (by omega)).rg
  have q9 : lnQ L Q o 0 9 = Q 0 9 + 1 := by unfold lnQ; simp
  have sp0 := smG_ge (fun k => if isZ (Q 2 k) then (1 : Int) else 0) 0 (Q 0 9).toNat (fun o _ _ => by show (0 : Int) ≤ (if isZ (Q 2 o) then (1 : Int) else 0); split <;> omega)
  have sp1 := smG_le (fun k => if isZ (Q 2 k) then (1 : Int) else 0) 1 (Q 0 9).toNat (fun o _ _ => by show (if isZ (Q 2 o) then (1 : Int) else 0) ≤ 1; split <;> omega)
  have sp := I.sp
  rw [q9] at le
  have cz : 0 ≤ lnC L Q o := by
    unfold lnC
    split
    · exact W.mb.nng _ (by omega) (by omega)
    · omega
  unfold lnS
  rw [gK_in ⟨by omega, by omega⟩ (by decide)]
  have hc : lnC L Q o = if isZ (Q 3 (o - 1)) then L 2 (Q 3 (o - 1)) else 0 := rfl
  have hQ : ∀ k i, lnQ L Q o k i = if k = 2 ∧ i = Q 0 9 then Q 3 (o - 1) else if k = 3 ∧ o - 1 ≤ i ∧ i < o - 1 + lnC L Q o then mbrF L (Q 3 (o - 1)) (lnC L Q o - 1 - (i - (o - 1))) else
    if k = 0 ∧ i = 9 then Q 0 9 + 1 else if k = 0 ∧ i = 10 then Q 0 10 + (if isZ (Q 3 (o - 1)) then 1 else 0) else Q k i := fun _ _ => rfl
  generalize lnQ L Q o = X at *
  generalize lnC L Q o = c at *
  generalize Q 3 (o - 1) = nd at *
  simp only [sK_in (P := Q) (k := 2) (m := 31) (i := Q 0 9) (v := nd) ⟨by omega, by omega⟩ (by decide) (by omega), wr_id (x := Q 0 9 + 1) (by omega), wr_id (x := Q 0 10 + 1) (by omega)]
  by_cases z : isZ nd
  · have z' : 32 ≤ nd ∧ nd < 47 := z
    rw [if_pos z'] 
    rw [if_pos z] at hc
    rw [gL_2 ⟨by omega, by omega⟩, ← hc]
    have hM : MoT (up (up (up Q 2 (Q 0 9) nd) 0 9 (Q 0 9 + 1)) 0 10 (Q 0 10 + 1)) L := fun h i a b d e => by
      rw [up_e, if_neg (by omega), up_e, if_neg (by omega), up_e, if_neg (by omega)]; exact I.mt h i a b d e
    obtain ⟨p1, p2, p3, p4⟩ := psH_e W F (nd := nd) ⟨by omega, by omega⟩ c.toNat _ (o - 1) hM (by omega) (by omega)
    refine Prod.ext ?_ (by rw [p1]; omega)
    funext k i
    show (psH nd c.toNat (up (up (up Q 2 (Q 0 9) nd) 0 9 (Q 0 9 + 1)) 0 10 (Q 0 10 + 1)) (o - 1)).1 k i = X k i
    rw [hQ, if_pos z]
    by_cases k3 : k = 3
    · subst k3
      rw [if_neg (by omega)]
      by_cases r : o - 1 ≤ i ∧ i < o - 1 + c
      · have := p4 (i - (o - 1)) (by omega) (by omega)
        rw [show o - 1 + (i - (o - 1)) = i by omega] at this
        rw [this, if_pos ⟨rfl, r⟩]
        congr 1
        omega
      · rw [p3 i (by omega), if_neg (fun y => r y.2), if_neg (by omega), if_neg (by omega), up_e, if_neg (by omega), up_e, if_neg (by omega), up_e, if_neg (by omega)]
    · rw [p2 k i k3]
      clear p1 p2 p3 p4 hM hQ
      simp only [up_e]
      grind
  · have z' : ¬ (32 ≤ nd ∧ nd < 47) := z
    rw [if_neg z']
    rw [if_neg z] at hc
    refine Prod.ext ?_ (by show o - 1 = o - 1 + c; omega)
    funext k i
    show up (up Q 2 (Q 0 9) nd) 0 9 (Q 0 9 + 1) k i = X k i
    rw [hQ, if_neg z]
    clear hQ
    simp only [up_e]
    grind
theorem lnG_end {L : Mem} (W : Wf L (-1)) (F : Fu L) : ∀ (m : Nat) (Q : Mem) (o : Int), LnI L Q o → 31 ≤ m + Q 0 9 → LnI L (lnG L m Q o) 0 ∧ (∀ (k : Nat) (i : Int), k ≠ 2 → k ≠ 3 → (k = 0 → i ≠ 9 ∧ i ≠ 10) → lnG L m Q o k i = Q k i)
  | 0, Q, o, I, h => by
    have le := I.le
    have o0 := I.o0
    have e : o = 0 := by omega
    subst e
    exact ⟨I, fun _ _ _ _ _ => rfl⟩
  | m + 1, Q, o, I, h => by
    unfold lnG
    have o0 := I.o0
    by_cases z : o ≤ 0
    · have e : o = 0 := by omega
      subst e
      rw [if_pos (Int.le_refl _)]
      exact ⟨I, fun _ _ _ _ _ => rfl⟩
    · rw [if_neg z, lnS_e W F I (by omega)]
      have q9 : lnQ L Q o 0 9 = Q 0 9 + 1 := by unfold lnQ; simp
      obtain ⟨a, b⟩ := lnG_end W F m (lnQ L Q o) (o - 1 + lnC L Q o) (I.step W F (by omega)) (by rw [q9]; omega)
      refine ⟨a, fun k i h1 h2 h3 => ?_⟩
      rw [b k i h1 h2 h3]
      unfold lnQ
      rw [if_neg (by omega), if_neg (by omega), if_neg (by omega), if_neg (by omega)]
