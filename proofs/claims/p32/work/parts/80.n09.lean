/-! a pane is taken away, the last of its group: afloat -/
/-- another tree and row, all else the same -/
theorem Lr_tree {m m' : Mem} {w : Nat} {L L' : Mem} {P q q' : Int} (A : Lr m w L P q) (sg : ∃ o c : Int → Int, Sg L' (m' w 3) (m' (w + 1)) o c) (rx : ∀ (a : Nat) (i : Int), a ≠ w + 1 → (a ≠ w ∨ i ≠ 3) → m' a i = m a i)
    (p0 : ∀ k : Int, 0 ≤ k → k < P → L' 0 k = L 0 k) (p1 : ∀ k : Int, 0 ≤ k → k < P → L 0 k ≠ -1 → L' 1 k = L 1 k) (g0 : ∀ g : Int, 16 ≤ g → g < 21 → (L' 0 g ≠ -1 ∨ g = q') → (L 0 g ≠ -1 ∨ g = q)) (l4 : ∀ i : Int, L' 4 i = L 4 i)
    (c48 : L' 2 48 = L 2 48) (f : ∀ t : Int, 16 ≤ t → t < 47 → L' 0 t = 48 → L 0 t = 48 ∧ L' 1 t = L 1 t) : Lr m' w L' P q' := by
  refine Lr.mk sg ?_ (fun k h1 h2 => ?_) (fun k h1 h2 h3 => ?_) (fun g h1 h2 h3 => ?_) ?_ (fun t h1 h2 h3 => ?_) (fun k h1 h2 => ?_)
  · rw [rx _ _ (by omega) (by omega)]; exact A.np
  · rw [rx _ _ (by omega) (by omega), p0 k h1 h2]; exact A.grp k h1 h2
  · rw [p0 k h1 h2] at h3
    rw [rx _ _ (by omega) (by omega), p1 k h1 h2 h3]; exact A.pla k h1 h2 h3
  · rw [rx _ _ (by omega) (by omega), l4]; exact A.act g h1 h2 (g0 g h1 h2 h3)
  · rw [rx _ _ (by omega) (by omega), c48]; exact A.flo
  · obtain ⟨a, b⟩ := f t h1 h2 h3
    rw [rx _ _ (by omega) (by omega), b]; exact A.fli t h1 h2 a
  · rw [p0 k h1 h2]; exact A.low k h1 h2
/-- how many there are of each kind -/
theorem Ly.cnt {L : Mem} {P : Int} (H : Ly L P) : 0 ≤ spN L ∧ gpN L ≤ opN L ∧ opN L ≤ P ∧ spN L + L 2 47 + L 2 48 ≤ gpN L := by
  have a := H.wf.cntN H.fu
  have s := smG_ge (fun i => if L 0 (i + 32) = -1 then 0 else 1) 0 15 (fun o _ _ => by show (0 : Int) ≤ (if L 0 (o + 32) = -1 then (0 : Int) else 1); split <;> omega)
  have e : smG (fun i => if L 0 (i + 32) = -1 then 0 else 1) 15 = spN L := rfl
  have p5 := H.p5
  have o : opN L ≤ P := by
    have key : ∀ n : Nat, smG (fun t => if L 0 t = -1 then 0 else 1) (P.toNat + n) ≤ P ∨ 16 < P.toNat + n := by
      intro n
      induction n with
      | zero =>
        have := smG_le (fun t => if L 0 t = -1 then 0 else 1) 1 P.toNat (fun o _ _ => by show (if L 0 o = -1 then (0 : Int) else 1) ≤ 1; split <;> omega)
        left
        rw [Nat.add_zero]
        omega
      | succ n ih =>
        rcases ih with ih | ih
        · by_cases q : P.toNat + (n + 1) ≤ 16
          · left
            rw [show P.toNat + (n + 1) = (P.toNat + n) + 1 by omega, smG]
            have c := H.cl ((P.toNat + n : Nat) : Int) (by omega) (by omega)
            rw [if_pos c]
            omega
          · right; omega
        · right; omega
    have := key (16 - P.toNat)
    unfold opN
    rw [show P.toNat + (16 - P.toNat) = 16 by omega] at this
    omega
  omega
section TF
variable {mu : Mem} {w : Nat} {L : Mem} {P p g : Int}
theorem take_flo (A : Lr mu w L P (-1)) (H : Ly L P) (hp : 0 ≤ p ∧ p < P) (hg : L 0 p = g) (hg1 : 16 ≤ g) (hg2 : g < 21) (hz : remF L p 2 g = 0) (h48 : L 0 g = 48) : ∃ mu' : Mem, jK mu w p mu' ∧ Lr mu' w (tkF L p) P (-1) ∧ Fr mu mu' w := by
  have B := km_Lr A H hp hg hg1 hg2
  obtain ⟨ap, pp, r2, r3, r20, rx⟩ := km_rows A H hp hg hg1 hg2
  have ht : 0 ≤ p ∧ p < 49 := by have := H.p5; omega
  have hh : 16 ≤ L 0 p ∧ L 0 p < 49 := by omega
  have f0 := fun o => remF_0 (L := L) ht hh o
  have f1 := fun o => remF_1 (L := L) ht hh o
  have f2 := fun o => remF_2 (L := L) ht hh o
  have p5 := H.p5
  have cn := H.cnt
  have W1 := H.wf.rem (t := p) ⟨by omega, by omega⟩ (by omega) (fun _ => by omega)
  have M := W1.mb
  have T1 := W1.tw9
  have tb := B.tabs M (g := g) ⟨hg1, by omega⟩ ⟨by omega, by omega⟩ (fun t t1 t2 e => by
    rw [f0] at e
    by_cases z : t = p
    · rw [if_pos z] at e; omega
    · rw [if_neg z] at e
      exact H.pan9 ⟨hg1, by omega⟩ ⟨t1, t2⟩ e)
  have g48 : remF L p 0 g = 48 := by rw [f0, if_neg (by omega)]; exact h48
  have win := H.wf.mb.nng 47 (by omega) (by omega)
  have c48 : remF L p 2 48 = L 2 48 := by rw [f2, if_neg (by omega)]
  have eT : tkF L p = remF (remF L p) g := by
    unfold tkF
    rw [aL_0 ht, if_neg (by omega), hg, aL_2 ⟨by omega, by omega⟩, if_pos hz]
    unfold togF
    rw [aL_0 ⟨by omega, by omega⟩, g48, if_neg (by omega)]
  rw [eT]
  clear eT r2 r3 r20 f1 f2
  have F5 : jKm mu w p w 4 ≤ 5 := by rw [B.flo, c48]; omega
  have fr := Fr.jKm (Fr.rf mu w) hp.1
  have hjK : ∀ mu' : Mem, jKg (jKm mu w p) w (mu (w + 2) (4 * p + 2)) mu' → jK mu w p mu' := fun mu' h => Or.inr ⟨⟨by omega, by omega⟩, Or.inr ⟨by rw [ap, tb]; omega, h⟩⟩
  rw [ap] at hjK
  generalize jKm mu w p = m at *
  generalize remF L p = L1 at *
  have gr := M.rng g (by omega) (by omega) (by omega)
  rw [g48] at gr
  have hh1 : 16 ≤ L1 0 g ∧ L1 0 g < 49 := by omega
  have k0 := fun o => remF_0 (L := L1) (t := g) ⟨by omega, by omega⟩ hh1 o
  have k1 := fun o => remF_1 (L := L1) (t := g) ⟨by omega, by omega⟩ hh1 o
  have k2 := fun o => remF_2 (L := L1) (t := g) ⟨by omega, by omega⟩ hh1 o
  have kk := fun k (hk : 3 ≤ k) o => remF_k (L := L1) (t := g) (k := k) hk ⟨by omega, by omega⟩ hh1 o
  obtain ⟨o, c, S⟩ := B.sg
  have sn : jS m w (g - 16) = -1 := S.sgnN (fun x hx h32 e => by
    have : x = g := by omega
    rw [this] at hx
    exact hx.2.2 g48)
  have bf := B.flo
  refine ⟨jKf m w (L1 1 g), hjK _ (Or.inl ⟨by rw [sn]; omega, L1 1 g, ⟨gr.1, by omega, F5⟩, B.fli g (by omega) (by omega) g48, fun x x1 x2 e => ?_, rfl⟩), ?_, fr.jKf _⟩
  · obtain ⟨t1, t2, t3⟩ := mbrF_get M (h := 48) (i := x) ⟨by omega, by omega⟩ ⟨x1, by omega⟩
    have tm := W1.mem t1 (by omega)
    have q := B.fli _ tm.1 tm.2 t2
    rw [t3, e] at q
    have : mbrF L1 48 x = g := by omega
    rw [this] at t3
    omega
  · have j4 : jKf m w (L1 1 g) w 4 = m w 4 - 1 := jKf1_4 _ _ _ _
    have jx := fun (a : Nat) (i : Int) (h : a ≠ w + 3 ∧ (a ≠ w ∨ i ≠ 4)) => jKf_x m w (L1 1 g) h
    refine Lr.mk ⟨o, c, ?_⟩ ?_ (fun k h1 h2 => ?_) (fun k h1 h2 h3 => ?_) (fun x h1 h2 h3 => ?_) ?_ (fun t h1 h2 h3 => ?_) (fun k h1 h2 => ?_)
    · rw [jx w 3 (by omega), show jKf m w (L1 1 g) (w + 1) = m (w + 1) from funext fun i => jx _ i (by omega)]
      refine S.cg (fun x => ?_) (fun x h => ?_) (fun x h => ?_) (fun x h1 h2 => ?_) (fun x h _ => kk 3 (by omega) x) (fun x _ _ => kk 5 (by omega) x) (fun i _ _ => rfl) T1.hol
      · constructor
        · intro h
          have e := k0 x
          have h2 := h.2
          by_cases z : x = g
          · rw [if_pos z] at e; omega
          · rw [if_neg z] at e; exact ⟨h.1, by omega, by omega⟩
        · intro h
          have e := k0 x
          have h2 := h.2
          by_cases z : x = g
          · rw [z] at h2; omega
          · rw [if_neg z] at e; exact ⟨h.1, by omega, by omega⟩
      · rw [k0, if_neg (fun z => h.2.2 (by rw [z]; exact g48))]
      · rw [k1, if_neg (fun z => h.2.2 (by rw [z.2.2.1]; exact g48))]
      · rw [k2, if_neg (by omega)]
    · rw [jx w 2 (by omega)]; exact B.np
    · have kg : k ≠ g := by omega
      rw [jx _ _ (by omega), k0, if_neg kg]; exact B.grp k h1 h2
    · rw [k0, if_neg (by omega)] at h3
      have := W1.pan k h1 (by omega)
      rw [jx _ _ (by omega), k1, if_neg (fun z => by omega)]; exact B.pla k h1 h2 h3
    · rw [k0] at h3
      by_cases z : x = g
      · rw [if_pos z] at h3; omega
      · rw [if_neg z] at h3
        rw [jx _ _ (by omega), kk 4 (by omega)]; exact B.act x h1 h2 h3
    · rw [j4, k2, g48, if_pos rfl, B.flo]
    · rw [k0] at h3
      by_cases z : t = g
      · rw [if_pos z] at h3; omega
      · rw [if_neg z] at h3
        have q := B.fli t h1 h2 h3
        have rt := M.rng t (by omega) (by omega) (by omega)
        rw [h3] at rt
        have ne : L1 1 t ≠ L1 1 g := fun e => z (M.inj t g (by omega) (by omega) (by omega) (by omega) (by omega) (by omega) e)
        rw [k1]
        by_cases y : L1 1 g < L1 1 t
        · rw [if_pos ⟨z, ⟨by omega, by omega⟩, by omega, y⟩]
          unfold jKf jKf1
          rw [if_pos ⟨rfl, by omega, by omega⟩, show L1 1 t - 1 + 1 = L1 1 t by omega]
          exact q
        · rw [if_neg (fun q => y q.2.2.2)]
          unfold jKf jKf1
          rw [if_neg (by omega), if_neg (by omega)]
          exact q
    · rw [k0, if_neg (by omega)]; exact B.low k h1 h2
end TF
