/-! a pane is taken away, the last of its group: docked -/
theorem jS_b9 {L : Mem} {mu : Mem} {w : Nat} {o c : Int → Int} (S : Sg L (mu w 3) (mu (w + 1)) o c) {x : Int} (hx : Tn L x) : 0 ≤ o x ∧ o x < mu w 3 := by
  have := S.rng x hx
  omega
section TD
variable {mu : Mem} {w : Nat} {L : Mem} {P p g : Int}
theorem take_doc (A : Lr mu w L P (-1)) (H : Ly L P) (hp : 0 ≤ p ∧ p < P) (hm : mu w 3 ≤ 16) (hg : L 0 p = g) (hg1 : 16 ≤ g) (hg2 : g < 21) (hz : remF L p 2 g = 0) (h48 : L 0 g ≠ 48) : ∃ mu' : Mem, jK mu w p mu' ∧ Lr mu' w (tkF L p) P (-1) ∧ Fr mu mu' w := by
  have B := km_Lr A H hp hg hg1 hg2
  obtain ⟨ap, pp, r2, r3, r20, rx⟩ := km_rows A H hp hg hg1 hg2
  have ht : 0 ≤ p ∧ p < 49 := by have := H.p5; omega
  have hh : 16 ≤ L 0 p ∧ L 0 p < 49 := by omega
  have f0 := fun o => remF_0 (L := L) ht hh o
  have f2 := fun o => remF_2 (L := L) ht hh o
  have p5 := H.p5
  have W1 := H.wf.rem (t := p) ⟨by omega, by omega⟩ (by omega) (fun _ => by omega)
  have M := W1.mb
  have T1 := W1.tw9
  have own := H.wf.own p ht.1 ht.2 (by omega) (by omega)
  rw [hg] at own
  have tb := B.tabs M (g := g) ⟨hg1, by omega⟩ ⟨by omega, by omega⟩ (fun t t1 t2 e => by
    rw [f0] at e
    by_cases z : t = p
    · rw [if_pos z] at e; omega
    · rw [if_neg z] at e
      exact H.pan9 ⟨hg1, by omega⟩ ⟨t1, t2⟩ e)
  have g0 : remF L p 0 g = L 0 g := by rw [f0, if_neg (by omega)]
  have hgT : Tn (remF L p) g := ⟨⟨by omega, by omega⟩, by omega, by omega⟩
  have F1 : ∀ x : Int, Tn (remF L p) x → 32 ≤ x → 2 ≤ remF L p 2 x := fun x h h32 => by
    have e := f0 x
    rw [if_neg (by have := h.1; omega)] at e
    have := h.2
    have := (H.fu x (by omega) (by have := h.1; omega)).2 (by omega)
    rw [f2, if_neg (by omega)]
    omega
  have m3 : jKm mu w p w 3 ≤ 16 := by rw [rx w 3 (by omega)]; exact hm
  have eT : tkF L p = togF (remF L p) g := by
    unfold tkF
    rw [aL_0 ht, if_neg (by omega), hg, aL_2 ⟨by omega, by omega⟩, if_pos hz]
  rw [eT]
  have fr := Fr.jKm (Fr.rf mu w) hp.1
  have hjK : ∀ mu' : Mem, jKg (jKm mu w p) w (mu (w + 2) (4 * p + 2)) mu' → jK mu w p mu' := fun mu' h => Or.inr ⟨⟨by omega, by omega⟩, Or.inr ⟨by rw [ap, tb]; omega, h⟩⟩
  rw [ap] at hjK
  clear eT r2 r3 r20 f0 f2 own g0 tb
  generalize jKm mu w p = m at *
  generalize remF L p = L1 at *
  have hl := T1.hol g hgT
  have hh1 : 16 ≤ L1 0 g ∧ L1 0 g < 49 := by omega
  have W2 := W1.rem (t := g) ⟨by omega, by omega⟩ (by omega) (fun _ => hz)
  have T2 := W2.tw9
  have k0 := fun o => remF_0 (L := L1) (t := g) ⟨by omega, by omega⟩ hh1 o
  have k1 := fun o => remF_1 (L := L1) (t := g) ⟨by omega, by omega⟩ hh1 o
  have k2 := fun o => remF_2 (L := L1) (t := g) ⟨by omega, by omega⟩ hh1 o
  have kk := fun k (hk : 3 ≤ k) o => remF_k (L := L1) (t := g) (k := k) hk ⟨by omega, by omega⟩ hh1 o
  obtain ⟨o, c, S⟩ := B.sg
  have sn : jS m w (g - 16) = o g := S.sgn hgT (by omega)
  have rg := S.rng g hgT
  have lg := S.lef g hgT (by omega)
  have S2 : Sg (remF L1 g) (m w 3 - 1) (jC m w (o g) (w + 1)) (fun x => dn (o g) (o x)) (fun x => dn (o g) (c x)) := by
    refine S.cut T1 hgT (by omega) (fun x _ _ => k0 x) (fun x x1 x2 x3 _ => ?_) (fun x _ _ => ?_) (fun x _ _ => kk 3 (by omega) x) (fun x _ _ => kk 5 (by omega) x) (fun i i1 i2 => jC_row rg.1 i2)
    · rw [k1]
      by_cases z : L1 0 x = L1 0 g ∧ L1 1 g < L1 1 x
      · rw [if_pos ⟨x3, ⟨by omega, by omega⟩, z.1, z.2⟩, if_pos z]
      · rw [if_neg (fun q => z ⟨q.2.2.1, q.2.2.2⟩), if_neg z]
    · rw [k2]
  have c3 := jC_3 m w (o g)
  have cx := fun (a : Nat) (i : Int) (h : a ≠ w + 1 ∧ (a ≠ w ∨ i ≠ 3)) => jC_x m w (o g) h
  -- without a second change
  have plain : Lr (jC m w (o g)) w (remF L1 g) P (-1) := by
    refine Lr_tree B ⟨_, _, by rw [c3]; exact S2⟩ (fun a i h1 h2 => cx a i ⟨h1, h2⟩) (fun k h1 h2 => ?_) (fun k h1 h2 h3 => ?_) (fun x h1 h2 h3 => ?_) (fun i => kk 4 (by omega) i) ?_ (fun t h1 h2 h3 => ?_)
    · rw [k0, if_neg (by omega)]
    · have := W1.pan k h1 (by omega)
      rw [k1, if_neg (fun z => by omega)]
    · rw [k0] at h3
      by_cases z : x = g
      · rw [if_pos z] at h3; omega
      · rw [if_neg z] at h3; exact h3
    · rw [k2, if_neg (by omega)]
    · rw [k0] at h3
      by_cases z : t = g
      · rw [if_pos z] at h3; omega
      · rw [if_neg z] at h3
        exact ⟨h3, by rw [k1, if_neg (fun z => by omega)]⟩
  have g01 : aL L1 0 g = L1 0 g := aL_0 ⟨by omega, by omega⟩
  by_cases root : L1 0 g = 47
  · have eG : togF L1 g = remF L1 g := by
      unfold togF
      rw [g01, if_neg (by omega)]
    rw [eG]
    exact ⟨_, hjK _ (Or.inr ⟨by rw [sn]; exact rg.1, -1, by rw [sn]; exact S.upR hgT root, Or.inl ⟨by omega, by rw [sn]⟩⟩), plain, fr.jC _⟩
  · have hx := T1.par g hgT root
    have x32 : 32 ≤ L1 0 g := by omega
    have xl : L1 0 g < 47 := by omega
    have hup := S.upP T1 (fun y h h32 => by have := F1 y h h32; omega) m3 hgT root
    have ub := hup.1
    have x0 : remF L1 g 0 (L1 0 g) = L1 0 (L1 0 g) := by rw [k0, if_neg (by omega)]
    have hx2 : Tn (remF L1 g) (L1 0 g) := ⟨hx.1, by rw [x0]; exact hx.2.1, by rw [x0]; exact hx.2.2⟩
    have F2 : ∀ y : Int, Tn (remF L1 g) y → 32 ≤ y → 1 ≤ remF L1 g 2 y := fun y h h32 => by
      have e := k0 y
      rw [if_neg (by omega)] at e
      have h2 := h.2
      have := F1 y ⟨h.1, by omega, by omega⟩ h32
      rw [k2]
      split <;> omega
    obtain ⟨kp, kp4, kpN⟩ := S2.kidP T2 F2 (by omega) hx2 x32
    have oo : dn (o g) (o (L1 0 g)) = o (L1 0 g) := by
      have := dn_e (o g) (o (L1 0 g))
      omega
    rw [oo] at kp
    have rx0 := S.rng _ hx
    have n1 := F2 _ hx2 x32
    by_cases one : remF L1 g 2 (L1 0 g) = 1
    · -- the split goes too
      obtain ⟨z1, z2, z3, z4⟩ := Sg.kidO T2 S2 hx2 x32 0 (by omega)
      have cc := Sg.kidC T2 S2 hx2 x32 0 0 (by omega)
      have eG : togF L1 g = replF (remF (remF L1 g) (mbrF (remF L1 g) (L1 0 g) 0)) (L1 0 g) (mbrF (remF L1 g) (L1 0 g) 0) := by
        unfold togF togA
        rw [g01, aL_2 ⟨by omega, by omega⟩, if_pos ⟨⟨x32, xl⟩, one⟩]
      rw [eG]
      have en := S2.endP T2 F2 (by omega) hx2 x32
      have rs := S2.rng _ hx2
      have rt := S2.rng _ z2
      have S3 := fun L' Q' => Sg.con (L' := L') (Q' := Q') T2 S2 hx2 x32 z2 z3 one
      dsimp only at en rs rt z1 cc S3
      rw [oo] at en rs z1
      generalize et : mbrF (remF L1 g) (L1 0 g) ((0 : Nat) : Int) = t at *
      simp only [oo] at S3
      generalize ee : dn (o g) (c (L1 0 g)) = e at *
      generalize ex : L1 0 g = x at *
      have hjK2 : ∀ mu' : Mem, mu' = jC (jC (up (jC m w (o g)) (w + 1) (3 * o x + 4) (jC m w (o g) (w + 1) (3 * o x + 1))) w e) w (o x) → jK mu w p mu' := fun mu' hmu => by
        refine hjK _ (Or.inr ⟨by rw [sn]; exact rg.1, o x, by rw [sn]; exact hup, Or.inr ⟨by omega, (remF L1 g 2 x).toNat, _, by rw [sn]; exact kp, by rw [sn]; exact kp4, by omega, Or.inr ⟨by omega, e, by omega, by omega, ?_, by rw [sn]; exact hmu⟩⟩⟩)
        rw [sn]
        refine en.cg fun i => ?_
        rw [up_e, if_neg (by omega)]
      have y3 : up (jC m w (o g)) (w + 1) (3 * o x + 4) (jC m w (o g) (w + 1) (3 * o x + 1)) w 3 = m w 3 - 1 := by rw [up_e, if_neg (by omega), c3]
      have yr : ∀ j : Int, up (jC m w (o g)) (w + 1) (3 * o x + 4) (jC m w (o g) (w + 1) (3 * o x + 1)) (w + 1) j = if j = 3 * o x + 4 then jC m w (o g) (w + 1) (3 * o x + 1) else jC m w (o g) (w + 1) j := fun j => by
        rw [up_e]
        by_cases z : j = 3 * o x + 4
        · rw [if_pos ⟨rfl, z⟩, if_pos z]
        · rw [if_neg (fun q => z q.2), if_neg z]
      have yx : ∀ (a : Nat) (i : Int), a ≠ w + 1 → up (jC m w (o g)) (w + 1) (3 * o x + 4) (jC m w (o g) (w + 1) (3 * o x + 1)) a i = jC m w (o g) a i := fun a i h => up_a _ _ _ _ h
      have yf : Fr mu (up (jC m w (o g)) (w + 1) (3 * o x + 4) (jC m w (o g) (w + 1) (3 * o x + 1))) w := (fr.jC _).up (Or.inl rfl)
      generalize up (jC m w (o g)) (w + 1) (3 * o x + 4) (jC m w (o g) (w + 1) (3 * o x + 1)) = m2 at *
      have d3 := jC_3 m2 w e
      have q3 := jC_3 (jC m2 w e) w (o x)
      refine ⟨_, hjK2 _ rfl, ?_, (yf.jC _).jC _⟩
      -- the layout's rows
      have tl := z2.1
      have hh2 : 16 ≤ remF L1 g 0 t ∧ remF L1 g 0 t < 49 := by omega
      have ht2 : 0 ≤ t ∧ t < 49 := by omega
      have hx9 : 0 ≤ x ∧ x < 49 := by omega
      have ntx : t ≠ x := fun q => by
        have e9 : dn (o g) (o t) = dn (o g) (o x) := by rw [q]
        omega
      have nxt : x ≠ t := fun q => ntx q.symm
      have only : ∀ y : Int, 0 ≤ y → y < 49 → remF L1 g 0 y = x → y = t := fun y y1 y2 q => by
        have a := W2.mb.rng y y1 y2 (by omega)
        have b := W2.mb.rng t (by omega) (by omega) (by omega)
        rw [q, one] at a
        rw [z3, one] at b
        exact W2.mb.inj y t y1 y2 (by omega) (by omega) (by omega) (by omega) (by omega)
      have j0 := fun o => remF_0 (L := remF L1 g) ht2 hh2 o
      have j1 := fun o => remF_1 (L := remF L1 g) ht2 hh2 o
      have j2 := fun o => remF_2 (L := remF L1 g) ht2 hh2 o
      have jk := fun k (hk : 3 ≤ k) o => remF_k (L := remF L1 g) (k := k) hk ht2 hh2 o
      have R0 : ∀ y : Int, replF (remF (remF L1 g) t) x t 0 y = if y = x then -1 else if y = t then remF L1 g 0 x else remF L1 g 0 y := fun y => by
        rw [replF_0 hx9 ht2, j0, j0, if_neg nxt]
        by_cases y1 : y = x
        · rw [if_pos y1, if_pos y1]
        · rw [if_neg y1, if_neg y1]
          by_cases y2 : y = t
          · rw [if_pos y2, if_pos y2]
          · rw [if_neg y2, if_neg y2, if_neg y2]
      have R1 : ∀ y : Int, 0 ≤ y → y < 49 → replF (remF (remF L1 g) t) x t 1 y = if y = t then remF L1 g 1 x else remF L1 g 1 y := fun y y1 y2 => by
        have no : ∀ v : Int, ¬ (v ≠ t ∧ (0 ≤ v ∧ v < 49) ∧ remF L1 g 0 v = remF L1 g 0 t ∧ remF L1 g 1 t < remF L1 g 1 v) := fun v q => q.1 (only v q.2.1.1 q.2.1.2 (by rw [q.2.2.1]; exact z3))
        rw [replF_1 hx9 ht2, j1, j1, if_neg (no x), if_neg (no y)]
      have R2 : ∀ y : Int, y ≠ x → replF (remF (remF L1 g) t) x t 2 y = remF L1 g 2 y := fun y q => by
        rw [replF_k (Or.inl rfl) hx9 ht2, j2, z3, if_neg q]
      have R3 : ∀ y : Int, replF (remF (remF L1 g) t) x t 3 y = if y = t then remF L1 g 3 x else remF L1 g 3 y := fun y => by
        rw [replF_3 hx9 ht2, jk 3 (by omega), jk 3 (by omega)]
      have Rk : ∀ (k : Nat) (y : Int), 4 ≤ k → replF (remF (remF L1 g) t) x t k y = remF L1 g k y := fun k y hk => by
        rw [replF_k (Or.inr hk) hx9 ht2, jk k (by omega)]
      have ox0 := S.rng _ hx
      have S4 := S3 (replF (remF (remF L1 g) t) x t) (jC (jC m2 w e) w (o x) (w + 1)) (fun y _ _ => R0 y) (fun y y1 y2 _ _ => R1 y (by omega) (by omega)) (fun y _ _ q => R2 y q) (fun y _ _ => R3 y) (fun y _ _ => Rk 5 y (by omega)) (fun i i1 i2 => by
        rw [jC_row (by omega) (by omega)]
        by_cases a : i < 3 * o x
        · rw [if_pos a, if_pos a, jC_row (by omega) (by omega), if_pos (by omega), yr]
        · rw [if_neg a, if_neg a, jC_row (by omega) (by omega)]
          by_cases b : i + 3 < 3 * e
          · have b2 : i < 3 * (e - 1) := by omega
            rw [if_pos b, if_pos b2, yr]
          · have b2 : ¬ i < 3 * (e - 1) := by omega
            rw [if_neg b, if_neg b2, show i + 3 + 3 = i + 6 by omega, yr])
      have two := plain
      refine Lr_tree (m := jC m w (o g)) (L := remF L1 g) two ⟨_, _, by rw [q3, d3, y3, show m w 3 - 1 - 1 - 1 = m w 3 - 1 - 2 by omega]; exact S4⟩ (fun a i h1 h2 => ?_) (fun k h1 h2 => ?_) (fun k h1 h2 h3 => ?_) (fun v h1 h2 h3 => ?_) (fun i => Rk 4 i (by omega)) (R2 48 (by omega)) (fun v h1 h2 h3 => ?_)
      · rw [jC_x _ _ _ ⟨h1, h2⟩, jC_x _ _ _ ⟨h1, h2⟩, yx a i h1]
      · rw [R0, if_neg (by omega), if_neg (by omega)]
      · rw [R1 k h1 (by omega), if_neg (by omega)]
      · rw [R0, if_neg (by omega)] at h3
        by_cases y2 : v = t
        · rw [y2, z3]; left; omega
        · rw [if_neg y2] at h3; exact h3
      · rw [R0] at h3
        by_cases y1 : v = x
        · rw [if_pos y1] at h3; omega
        · rw [if_neg y1] at h3
          by_cases y2 : v = t
          · rw [if_pos y2] at h3
            exact absurd h3 hx2.2.2
          · rw [if_neg y2] at h3
            exact ⟨h3, by rw [R1 v (by omega) (by omega), if_neg y2]⟩
    · have eG : togF L1 g = remF L1 g := by
        unfold togF
        rw [g01, aL_2 ⟨by omega, by omega⟩, if_neg (fun q => one q.2)]
      rw [eG]
      exact ⟨_, hjK _ (Or.inr ⟨by rw [sn]; exact rg.1, _, by rw [sn]; exact hup, Or.inr ⟨by omega, (remF L1 g 2 (L1 0 g)).toNat, _, by rw [sn]; exact kp, by rw [sn]; exact kp4, by omega, Or.inl ⟨by omega, by rw [sn]⟩⟩⟩), plain, fr.jC _⟩
end TD
