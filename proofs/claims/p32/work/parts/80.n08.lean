/-! a pane is taken away: among others of its group -/
theorem jNG_hit {p : Int → Int} {gr pl t : Int} : ∀ n : Nat, 0 ≤ t → t < n → (p (4 * t + 2) = gr ∧ (if pl < p (4 * t + 3) then p (4 * t + 3) - 1 else p (4 * t + 3)) = pl) → (∀ i : Int, 0 ≤ i → i < n → (p (4 * i + 2) = gr ∧ (if pl < p (4 * i + 3) then p (4 * i + 3) - 1 else p (4 * i + 3)) = pl) → i = t) → jNG p gr pl n = t
  | 0, h1, h2, _, _ => by omega
  | n + 1, h1, h2, h3, hu => by
    unfold jNG
    by_cases q : p (4 * (n : Int) + 2) = gr ∧ (if pl < p (4 * (n : Int) + 3) then p (4 * (n : Int) + 3) - 1 else p (4 * (n : Int) + 3)) = pl
    · rw [if_pos q]
      exact hu n (by omega) (by omega) q
    · rw [if_neg q]
      have : t ≠ n := by intro e; subst e; exact q h3
      exact jNG_hit n h1 (by omega) h3 (fun i i1 i2 => hu i i1 (by omega))
theorem jNG_no {p : Int → Int} {gr pl : Int} : ∀ n : Nat, (∀ i : Int, 0 ≤ i → i < n → ¬ (p (4 * i + 2) = gr ∧ (if pl < p (4 * i + 3) then p (4 * i + 3) - 1 else p (4 * i + 3)) = pl)) → jNG p gr pl n = -1
  | 0, _ => rfl
  | n + 1, hu => by
    unfold jNG
    rw [if_neg (hu n (by omega) (by omega))]
    exact jNG_no n (fun i i1 i2 => hu i i1 (by omega))
theorem jMG_hit {p : Int → Int} {gr v e t : Int} : ∀ d : Nat, e - d ≤ t → t < e → (p (4 * t + 2) = gr ∧ p (4 * t + 3) = v) → (∀ i : Int, e - d ≤ i → i < e → p (4 * i + 2) = gr ∧ p (4 * i + 3) = v → i = t) → jMG p gr v e d = t
  | 0, h1, h2, _, _ => by omega
  | d + 1, h1, h2, h3, hu => by
    unfold jMG
    have ec : ((d + 1 : Nat) : Int) = (d : Int) + 1 := by omega
    split
    · rename_i q
      exact hu _ (by omega) (by omega) q
    · rename_i q
      have : t ≠ e - ((d : Int) + 1) := by intro z; subst z; exact q h3
      exact jMG_hit d (by omega) h2 h3 (fun i i1 i2 => hu i (by omega) i2)
/-- what the law needs to know of a layout -/
def Ly (L : Mem) (P : Int) : Prop :=
  (Wf L (-1)) ∧
  (Fu L) ∧
  (Cl L P) ∧
  (0 ≤ P ∧ P ≤ 5)
theorem Ly.wf {L : Mem} {P : Int} (h9 : Ly L P) : Wf L (-1) := h9.1
theorem Ly.fu {L : Mem} {P : Int} (h9 : Ly L P) : Fu L := h9.2.1
theorem Ly.cl {L : Mem} {P : Int} (h9 : Ly L P) : Cl L P := h9.2.2.1
theorem Ly.p5 {L : Mem} {P : Int} (h9 : Ly L P) : 0 ≤ P ∧ P ≤ 5 := h9.2.2.2
theorem Ly.mk {L : Mem} {P : Int} (h_wf : Wf L (-1)) (h_fu : Fu L) (h_cl : Cl L P) (h_p5 : 0 ≤ P ∧ P ≤ 5) : Ly L P := ⟨h_wf, h_fu, h_cl, h_p5⟩
theorem Ly.pan9 {L : Mem} {P : Int} (H : Ly L P) {g t : Int} (hg : 16 ≤ g ∧ g < 32) (ht : 0 ≤ t ∧ t < 49) (e : L 0 t = g) : t < P := by
  have a := H.wf.memG ht (by omega)
  by_cases q : t < P
  · exact q
  · have := H.cl t (by omega) a
    omega
section TA
variable {mu : Mem} {w : Nat} {L : Mem} {P p g : Int}
theorem km_rows (A : Lr mu w L P (-1)) (H : Ly L P) (hp : 0 ≤ p ∧ p < P) (hg : L 0 p = g) (hg1 : 16 ≤ g) (hg2 : g < 21) :
    mu (w + 2) (4 * p + 2) = g - 16 ∧ mu (w + 2) (4 * p + 3) = L 1 p ∧ (∀ k : Int, 0 ≤ k → k < P → jKm mu w p (w + 2) (4 * k + 2) = if remF L p 0 k = -1 then -1 else remF L p 0 k - 16) ∧
    (∀ k : Int, 0 ≤ k → k < P → remF L p 0 k ≠ -1 → jKm mu w p (w + 2) (4 * k + 3) = remF L p 1 k) ∧ (∀ i : Int, 20 ≤ i → jKm mu w p (w + 2) i = mu (w + 2) i) ∧ (∀ (a : Nat) (i : Int), a ≠ w + 2 → jKm mu w p a i = mu a i) := by
  have ht : 0 ≤ p ∧ p < 49 := by have := H.p5; omega
  have hh : 16 ≤ L 0 p ∧ L 0 p < 49 := by omega
  have f0 := fun o => remF_0 (L := L) ht hh o
  have f1 := fun o => remF_1 (L := L) ht hh o
  have np := A.np
  have ap := A.grp p hp.1 hp.2
  rw [if_neg (by omega), hg] at ap
  have pp := A.pla p hp.1 hp.2 (by omega)
  have p5 := H.p5
  have k1 : ∀ i : Int, i % 4 ≠ 3 → jKm mu w p (w + 2) i = if i = 4 * p + 2 then -1 else mu (w + 2) i := fun i hi => by
    unfold jKm
    rw [jK1_x _ _ _ _ _ (by omega), up_e]
    by_cases q : i = 4 * p + 2
    · rw [if_pos ⟨rfl, q⟩, if_pos q]
    · rw [if_neg (fun z => q z.2), if_neg q]
  refine ⟨ap, pp, fun k h1 h2 => ?_, fun k h1 h2 h3 => ?_, fun i hi => ?_, fun a i ha => jKm_x mu w p ha i⟩
  · rw [k1 _ (by omega), f0]
    have a := A.grp k h1 h2
    by_cases q : k = p
    · rw [if_pos (by omega), if_pos q, if_pos rfl]
    · rw [if_neg (by omega), if_neg q, a]
  · rw [f0] at h3
    by_cases q : k = p
    · rw [if_pos q] at h3
      exact absurd rfl h3
    · rw [if_neg q] at h3
      have a := A.grp k h1 h2
      rw [if_neg h3] at a
      have b := A.pla k h1 h2 h3
      rw [f1]
      have u3 : up mu (w + 2) (4 * p + 2) (-1) (w + 2) (4 * k + 3) = L 1 k := by rw [up_e, if_neg (by omega), b]
      have u2 : up mu (w + 2) (4 * p + 2) (-1) (w + 2) (4 * k + 3 - 1) = L 0 k - 16 := by rw [show 4 * k + 3 - 1 = 4 * k + 2 by omega, up_e, if_neg (by omega), a]
      unfold jKm jK1
      rw [u3, u2, ap, pp, np]
      by_cases c : L 0 k = L 0 p ∧ L 1 p < L 1 k
      · rw [if_pos ⟨rfl, ⟨by omega, by omega, by omega⟩, by omega, c.2⟩, if_pos ⟨q, ⟨by omega, by omega⟩, c.1, c.2⟩]
      · rw [if_neg (fun z => c ⟨by omega, z.2.2.2⟩), if_neg (fun z => c ⟨z.2.2.1, z.2.2.2⟩)]
  · unfold jKm
    rw [jK1_x _ _ _ _ _ (by omega), up_e, if_neg (by omega)]
/-- the pane gone from its group: rows and layout -/
theorem km_Lr (A : Lr mu w L P (-1)) (H : Ly L P) (hp : 0 ≤ p ∧ p < P) (hg : L 0 p = g) (hg1 : 16 ≤ g) (hg2 : g < 21) : Lr (jKm mu w p) w (remF L p) P (-1) := by
  obtain ⟨-, -, r2, r3, r20, rx⟩ := km_rows A H hp hg hg1 hg2
  have ht : 0 ≤ p ∧ p < 49 := by have := H.p5; omega
  have hh : 16 ≤ L 0 p ∧ L 0 p < 49 := by omega
  have f0 := fun o => remF_0 (L := L) ht hh o
  have f1 := fun o => remF_1 (L := L) ht hh o
  have f2 := fun o => remF_2 (L := L) ht hh o
  have fk := fun k (hk : 3 ≤ k) o => remF_k (L := L) (k := k) hk ht hh o
  have p5 := H.p5
  have T := H.wf.tw9
  have e0 : ∀ x : Int, 16 ≤ x → remF L p 0 x = L 0 x := fun x hx => by rw [f0, if_neg (by omega)]
  refine Lr.mk ?_ ?_ r2 r3 ?_ ?_ ?_ ?_
  · obtain ⟨o, c, S⟩ := A.sg
    rw [show jKm mu w p (w + 1) = mu (w + 1) from funext fun i => rx _ i (by omega), rx w 3 (by omega)]
    refine ⟨o, c, S.cg (fun x => ?_) (fun x h => e0 x h.1.1) (fun x h => ?_) (fun x h1 h2 => ?_) (fun x h _ => fk 3 (by omega) x) (fun x _ _ => fk 5 (by omega) x) (fun i _ _ => rfl) T.hol⟩
    · constructor
      · intro h; have := e0 x h.1.1; have := h.2; exact ⟨h.1, by omega, by omega⟩
      · intro h; have := e0 x h.1.1; have := h.2; exact ⟨h.1, by omega, by omega⟩
    · have := T.hol x h
      rw [f1, if_neg (fun z => by omega)]
    · rw [f2, if_neg (by omega)]
  · rw [rx w 2 (by omega)]; exact A.np
  · intro x h1 h2 h3
    rw [e0 x h1] at h3
    rw [r20 _ (by omega), fk 4 (by omega)]
    exact A.act x h1 h2 h3
  · rw [rx w 4 (by omega), f2, if_neg (by omega)]
    exact A.flo
  · intro t h1 h2 h3
    rw [e0 t h1] at h3
    rw [rx (w + 3) _ (by omega), f1, if_neg (fun z => by omega)]
    exact A.fli t h1 h2 h3
  · intro k h1 h2
    have := A.low k h1 h2
    rw [f0]
    split <;> omega
/-- another active pane -/
theorem act_Lr {q v : Int} (A : Lr mu w L P q) (hg : 16 ≤ g ∧ g < 21) (p5 : P ≤ 5) : Lr (up mu (w + 2) (4 + g) v) w (up L 4 (g - 16) v) P q := by
  have e : ∀ (k : Nat) (i : Int), k ≠ 4 → up L 4 (g - 16) v k i = L k i := fun k i hk => up_a _ _ _ _ hk
  refine Lr.mk ?_ ?_ (fun k h1 h2 => ?_) (fun k h1 h2 h3 => ?_) (fun x h1 h2 h3 => ?_) ?_ (fun t h1 h2 h3 => ?_) (fun k h1 h2 => ?_)
  · obtain ⟨o, c, S⟩ := A.sg
    rw [show up mu (w + 2) (4 + g) v (w + 1) = mu (w + 1) from funext fun i => up_a _ _ _ _ (by omega), up_a mu (4 + g) v 3 (show w ≠ w + 2 by omega)]
    exact ⟨o, c, S⟩
  · rw [up_a _ _ _ _ (by omega)]; exact A.np
  · rw [up_e, if_neg (by omega), e 0 _ (by omega)]; exact A.grp k h1 h2
  · rw [e 0 _ (by omega)] at h3
    rw [up_e, if_neg (by omega), e 1 _ (by omega)]; exact A.pla k h1 h2 h3
  · rw [e 0 _ (by omega)] at h3
    rw [up_e, up_e]
    by_cases z : x = g
    · rw [if_pos ⟨rfl, by omega⟩, if_pos ⟨rfl, by omega⟩]
    · rw [if_neg (by omega), if_neg (by omega)]
      exact A.act x h1 h2 h3
  · rw [up_a _ _ _ _ (by omega), e 2 _ (by omega)]; exact A.flo
  · rw [e 0 _ (by omega)] at h3
    rw [up_a _ _ _ _ (by omega), e 1 _ (by omega)]; exact A.fli t h1 h2 h3
  · rw [e 0 _ (by omega)]; exact A.low k h1 h2
theorem up_id (mu : Mem) (a : Nat) (i : Int) : up mu a i (mu a i) = mu := by
  funext b j
  rw [up_e]
  by_cases h : b = a ∧ j = i
  · rw [if_pos h, h.1, h.2]
  · rw [if_neg h]
/-- the pane that comes next -/
theorem kn_e (A : Lr mu w L P (-1)) (H : Ly L P) (hp : 0 ≤ p ∧ p < P) (hg : L 0 p = g) (hg1 : 16 ≤ g) (hg2 : g < 21) (hz : remF L p 2 g ≠ 0) : jKn mu w p = mbrF (remF L p) g (min (L 1 p) (remF L p 2 g - 1)) := by
  have B := km_Lr A H hp hg hg1 hg2
  obtain ⟨ap, pp, r2, r3, r20, rx⟩ := km_rows A H hp hg hg1 hg2
  have ht : 0 ≤ p ∧ p < 49 := by have := H.p5; omega
  have hh : 16 ≤ L 0 p ∧ L 0 p < 49 := by omega
  have f0 := fun o => remF_0 (L := L) ht hh o
  have f1 := fun o => remF_1 (L := L) ht hh o
  have f2 := fun o => remF_2 (L := L) ht hh o
  have p5 := H.p5
  have M := H.wf.mb.rem ht (by omega)
  have mp := H.wf.mb.rng p ht.1 ht.2 (by omega)
  rw [hg] at mp
  have mem : ∀ t : Int, 0 ≤ t → t < 49 → remF L p 0 t = g → t < P ∧ t ≠ p ∧ L 0 t = g := fun t t1 t2 e => by
    rw [f0] at e
    by_cases z : t = p
    · rw [if_pos z] at e; omega
    · rw [if_neg z] at e
      exact ⟨H.pan9 ⟨hg1, by omega⟩ ⟨t1, t2⟩ e, z, e⟩
  have tb := B.tabs M (g := g) ⟨hg1, by omega⟩ ⟨by omega, by omega⟩ (fun t t1 t2 e => (mem t t1 t2 e).1)
  have c2 : 1 ≤ remF L p 2 g := by have := M.nng g (by omega) (by omega); omega
  have np := A.np
  -- the first look, in terms of the layout
  have look : ∀ k : Int, 0 ≤ k → k < P → ((up mu (w + 2) (4 * p + 2) (-1) (w + 2) (4 * k + 2) = g - 16 ∧ (if L 1 p < up mu (w + 2) (4 * p + 2) (-1) (w + 2) (4 * k + 3) then up mu (w + 2) (4 * p + 2) (-1) (w + 2) (4 * k + 3) - 1 else up mu (w + 2) (4 * p + 2) (-1) (w + 2) (4 * k + 3)) = L 1 p) ↔ (remF L p 0 k = g ∧ remF L p 1 k = L 1 p)) := fun k k1 k2 => by
    rw [up_e, up_e, if_neg (show ¬ (w + 2 = w + 2 ∧ 4 * k + 3 = 4 * p + 2) by omega)]
    by_cases z : k = p
    · rw [if_pos ⟨rfl, by omega⟩, f0, if_pos z]
      constructor
      · intro h; omega
      · intro h; omega
    · rw [if_neg (by omega), f0, if_neg z, f1]
      have a := A.grp k k1 k2
      by_cases y : L 0 k = -1
      · rw [if_pos y] at a
        constructor
        · intro h; omega
        · intro h; omega
      · rw [if_neg y] at a
        have b := A.pla k k1 k2 y
        rw [a, b]
        constructor
        · rintro ⟨h1, h2⟩
          have e : L 0 k = g := by omega
          refine ⟨e, ?_⟩
          by_cases x : L 1 p < L 1 k
          · rw [if_pos x] at h2
            rw [if_pos ⟨z, ⟨by omega, by omega⟩, by omega, x⟩]
            exact h2
          · rw [if_neg x] at h2
            rw [if_neg (fun q => x q.2.2.2)]
            exact h2
        · rintro ⟨h1, h2⟩
          refine ⟨by omega, ?_⟩
          by_cases x : L 1 p < L 1 k
          · rw [if_pos ⟨z, ⟨by omega, by omega⟩, by omega, x⟩] at h2
            rw [if_pos x]
            exact h2
          · rw [if_neg (fun q => x q.2.2.2)] at h2
            rw [if_neg x]
            exact h2
  unfold jKn
  dsimp only
  rw [ap, pp, np, tb]
  by_cases c : L 1 p < remF L p 2 g
  · obtain ⟨t1, t2, t3⟩ := mbrF_get M (h := g) (i := L 1 p) ⟨by omega, by omega⟩ ⟨by omega, c⟩
    have tm := mem _ t1.1 t1.2 t2
    have e := jNG_hit (p := up mu (w + 2) (4 * p + 2) (-1) (w + 2)) (gr := g - 16) (pl := L 1 p) (t := mbrF (remF L p) g (L 1 p)) P.toNat t1.1 (by omega) ((look _ t1.1 tm.1).mpr ⟨t2, t3⟩) (fun i i1 i2 q => by
      have h := (look i i1 (by omega)).mp q
      exact M.inj i _ i1 (by omega) t1.1 t1.2 (by omega) (by rw [h.1, t2]) (by rw [h.2, t3]))
    rw [e, if_pos t1.1, show min (L 1 p) (remF L p 2 g - 1) = L 1 p by omega]
  · have e := jNG_no (p := up mu (w + 2) (4 * p + 2) (-1) (w + 2)) (gr := g - 16) (pl := L 1 p) P.toNat (fun i i1 i2 q => by
      have h := (look i i1 (by omega)).mp q
      have := M.rng i i1 (by omega) (by omega)
      rw [h.1] at this
      omega)
    rw [e, if_neg (by omega), show min (L 1 p) (remF L p 2 g - 1) = remF L p 2 g - 1 by omega]
    obtain ⟨t1, t2, t3⟩ := mbrF_get M (h := g) (i := remF L p 2 g - 1) ⟨by omega, by omega⟩ ⟨by omega, by omega⟩
    have tm := mem _ t1.1 t1.2 t2
    refine jMG_hit P.toNat (by omega) tm.1 ⟨?_, ?_⟩ (fun i i1 i2 q => ?_)
    · rw [r2 _ t1.1 tm.1, t2, if_neg (by omega)]
    · rw [r3 _ t1.1 tm.1 (by omega), t3]
    · have q1 := q.1
      rw [r2 i (by omega) i2] at q1
      by_cases y : remF L p 0 i = -1
      · rw [if_pos y] at q1; omega
      · rw [if_neg y] at q1
        have q2 := q.2
        rw [r3 i (by omega) i2 y] at q2
        exact M.inj i _ (by omega) (by omega) t1.1 t1.2 y (by rw [t2]; omega) (by rw [t3]; exact q2)
theorem take_tab (A : Lr mu w L P (-1)) (H : Ly L P) (hp : 0 ≤ p ∧ p < P) (hg : L 0 p = g) (hg1 : 16 ≤ g) (hg2 : g < 21) (hz : remF L p 2 g ≠ 0) : ∃ mu' : Mem, jK mu w p mu' ∧ Lr mu' w (tkF L p) P (-1) ∧ Fr mu mu' w := by
  have B := km_Lr A H hp hg hg1 hg2
  have kn := kn_e A H hp hg hg1 hg2 hz
  obtain ⟨ap, pp, r2, r3, r20, rx⟩ := km_rows A H hp hg hg1 hg2
  have ht : 0 ≤ p ∧ p < 49 := by have := H.p5; omega
  have hh : 16 ≤ L 0 p ∧ L 0 p < 49 := by omega
  have f0 := fun o => remF_0 (L := L) ht hh o
  have p5 := H.p5
  have M := H.wf.mb.rem ht (by omega)
  have c2 : 1 ≤ remF L p 2 g := by have := M.nng g (by omega) (by omega); omega
  have tb := B.tabs M (g := g) ⟨hg1, by omega⟩ ⟨by omega, by omega⟩ (fun t t1 t2 e => by
    rw [f0] at e
    by_cases z : t = p
    · rw [if_pos z] at e; omega
    · rw [if_neg z] at e
      exact H.pan9 ⟨hg1, by omega⟩ ⟨t1, t2⟩ e)
  have own := H.wf.own p ht.1 ht.2 (by omega) (by omega)
  rw [hg] at own
  have ac := A.act g hg1 hg2 (Or.inl (by omega))
  have e4 : remF L p 4 (g - 16) = L 4 (g - 16) := remF_k (by omega) ht hh _
  refine ⟨_, Or.inr ⟨⟨by omega, by omega⟩, Or.inl ⟨by rw [ap, tb]; omega, rfl⟩⟩, ?_, (Fr.jKm (Fr.rf mu w) hp.1).up (Or.inr (Or.inr (Or.inr ⟨rfl, Or.inl (by omega)⟩)))⟩
  have eT : tkF L p = up (remF L p) 4 (g - 16) (if L 4 (g - 16) = p then mbrF (remF L p) g (min (L 1 p) (remF L p 2 g - 1)) else L 4 (g - 16)) := by
    unfold tkF
    rw [aL_0 ht, if_neg (by omega), hg, aL_2 ⟨by omega, by omega⟩, if_neg hz, aL_4 ⟨by omega, by omega⟩, e4, aL_1 ht]
    by_cases z : L 4 (g - 16) = p
    · rw [if_pos z, if_pos z, pL_4 ⟨by omega, by omega⟩]
    · rw [if_neg z, if_neg z, ← e4, up_id]
  rw [eT, kn, ap, show (20 : Int) + (g - 16) = 4 + g by omega, ac]
  exact act_Lr B ⟨hg1, hg2⟩ p5.2
end TA
