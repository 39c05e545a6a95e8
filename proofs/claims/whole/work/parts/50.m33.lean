/-! boxes: all of the reference's -/
theorem BG.c {L : Mem} {V V' St St' Sz Sz' : Int → Int → Int} {x : Int} (h : BG L V St Sz x) (hV : V' = V) (ha : L 5 (x - 32) = 0 ∨ L 5 (x - 32) = 1) (hx : ∀ ax : Int, (ax = 0 ∨ ax = 1) → St' x ax = St x ax ∧ Sz' x ax = Sz x ax)
    (hk : ∀ k : Int, 0 ≤ k → k < L 2 x → ∀ ax : Int, (ax = 0 ∨ ax = 1) → St' (mbrF L x k) ax = St (mbrF L x k) ax ∧ Sz' (mbrF L x k) ax = Sz (mbrF L x k) ax) : BG L V' St' Sz' x := by
  subst hV
  intro k h1 h2
  have a := h k h1 h2
  have o1 := hx (L 5 (x - 32)) ha
  have o2 := hx (1 - L 5 (x - 32)) (by omega)
  have c1 := hk k h1 h2 (L 5 (x - 32)) ha
  have c2 := hk k h1 h2 (1 - L 5 (x - 32)) (by omega)
  rw [c1.1, c1.2, c2.1, c2.2, o1.1, o1.2, o2.1, o2.2]
  exact a
def BxI (u : Int → Int) (L : Mem) (f : Int → Int) (w h : Int) (r : Int → Nat) (q : Int) (wn : Int → Int) (Z : Mem) (a : Int) : Prop :=
  (Que u L Z q wn) ∧
  (∀ x : Int, InT L x → WE f L (VR u Z) x) ∧
  (∀ x : Int, InT L x → L 0 x = 47 → sR u Z x 0 = 0 ∧ sR u Z x 1 = 0 ∧ zR u Z x 0 = w ∧ zR u Z x 1 = h) ∧
  (∀ k : Int, 0 ≤ k → k < a → isZ (wn k) → BG L (VR u Z) (sR u Z) (zR u Z) (wn k)) ∧
  (∀ x : Int, InT L x → (L 0 x = 47 ∨ ∃ l : Int, 0 ≤ l ∧ l < a ∧ wn l = L 0 x) → BxR u Z r x) ∧
  (∀ k : Int, 0 ≤ k → k < a → Z 13 (u (wn k)) = if isZ (wn k) then tgV L (VR u Z) (zR u Z (wn k) (L 5 (wn k - 32))) (wn k) else 0)
theorem BxI.qe {u : Int → Int} {L : Mem} {f : Int → Int} {w h : Int} {r : Int → Nat} {q : Int} {wn : Int → Int} {Z : Mem} {a : Int} (h9 : BxI u L f w h r q wn Z a) : Que u L Z q wn := h9.1
theorem BxI.we {u : Int → Int} {L : Mem} {f : Int → Int} {w h : Int} {r : Int → Nat} {q : Int} {wn : Int → Int} {Z : Mem} {a : Int} (h9 : BxI u L f w h r q wn Z a) : ∀ x : Int, InT L x → WE f L (VR u Z) x := h9.2.1
theorem BxI.ro {u : Int → Int} {L : Mem} {f : Int → Int} {w h : Int} {r : Int → Nat} {q : Int} {wn : Int → Int} {Z : Mem} {a : Int} (h9 : BxI u L f w h r q wn Z a) : ∀ x : Int, InT L x → L 0 x = 47 → sR u Z x 0 = 0 ∧ sR u Z x 1 = 0 ∧ zR u Z x 0 = w ∧ zR u Z x 1 = h := h9.2.2.1
theorem BxI.be {u : Int → Int} {L : Mem} {f : Int → Int} {w h : Int} {r : Int → Nat} {q : Int} {wn : Int → Int} {Z : Mem} {a : Int} (h9 : BxI u L f w h r q wn Z a) : ∀ k : Int, 0 ≤ k → k < a → isZ (wn k) → BG L (VR u Z) (sR u Z) (zR u Z) (wn k) := h9.2.2.2.1
theorem BxI.bx {u : Int → Int} {L : Mem} {f : Int → Int} {w h : Int} {r : Int → Nat} {q : Int} {wn : Int → Int} {Z : Mem} {a : Int} (h9 : BxI u L f w h r q wn Z a) : ∀ x : Int, InT L x → (L 0 x = 47 ∨ ∃ l : Int, 0 ≤ l ∧ l < a ∧ wn l = L 0 x) → BxR u Z r x := h9.2.2.2.2.1
theorem BxI.ti {u : Int → Int} {L : Mem} {f : Int → Int} {w h : Int} {r : Int → Nat} {q : Int} {wn : Int → Int} {Z : Mem} {a : Int} (h9 : BxI u L f w h r q wn Z a) : ∀ k : Int, 0 ≤ k → k < a → Z 13 (u (wn k)) = if isZ (wn k) then tgV L (VR u Z) (zR u Z (wn k) (L 5 (wn k - 32))) (wn k) else 0 := h9.2.2.2.2.2
theorem BxI.mk {u : Int → Int} {L : Mem} {f : Int → Int} {w h : Int} {r : Int → Nat} {q : Int} {wn : Int → Int} {Z : Mem} {a : Int} (h_qe : Que u L Z q wn) (h_we : ∀ x : Int, InT L x → WE f L (VR u Z) x) (h_ro : ∀ x : Int, InT L x → L 0 x = 47 → sR u Z x 0 = 0 ∧ sR u Z x 1 = 0 ∧ zR u Z x 0 = w ∧ zR u Z x 1 = h) (h_be : ∀ k : Int, 0 ≤ k → k < a → isZ (wn k) → BG L (VR u Z) (sR u Z) (zR u Z) (wn k)) (h_bx : ∀ x : Int, InT L x → (L 0 x = 47 ∨ ∃ l : Int, 0 ≤ l ∧ l < a ∧ wn l = L 0 x) → BxR u Z r x) (h_ti : ∀ k : Int, 0 ≤ k → k < a → Z 13 (u (wn k)) = if isZ (wn k) then tgV L (VR u Z) (zR u Z (wn k) (L 5 (wn k - 32))) (wn k) else 0) : BxI u L f w h r q wn Z a := ⟨h_qe, h_we, h_ro, h_be, h_bx, h_ti⟩
section QU
variable {u : Int → Int} {L T : Mem} {kq : Int}
theorem bxG_e {f : Int → Int} {w h q : Int} {wn : Int → Int} (R : Rl u L T (-1) kq) (F : Fu L) (hf : LeB f) (hl : LeL f L) (hV : Vl L) {r : Int → Nat} (hb : ∀ x : Int, r x ≤ 16) (hr : ∀ t : Int, 16 ≤ t → t < 47 → 32 ≤ L 0 t → L 0 t < 47 → r t < r (L 0 t)) :
    ∀ (d : Nat) (a : Int) (Z : Mem), 0 ≤ a → a + d = q → BxI u L f w h r q wn Z a → BxI u L f w h r q wn (bxG T d a Z) q ∧ okB T d a Z
  | 0, a, Z, h0, h1, I => by
    have e : a = q := by omega
    subst e
    exact ⟨I, trivial⟩
  | d + 1, a, Z, h0, h1, I => by
    have W := R.wf
    have O := I.qe
    have n0 := O.n0
    have hx := O.rng a h0 (by omega)
    have row := O.row a h0 (by omega)
    have b := hx.rg
    have hB : BxR u Z r (wn a) := by
      refine I.bx _ hx ?_
      rcases hx.hol W with e | s
      · exact Or.inl e
      · by_cases j0 : a = 0
        · subst j0
          obtain ⟨q8, q9⟩ := O.root (by omega)
          have m := (mbrF_get W.mb (h := 47) (i := 0) ⟨by omega, by omega⟩ ⟨by omega, by omega⟩).2.1
          rw [← q9] at m
          exact Or.inl m
        · obtain ⟨-, l, l1, l2, l3⟩ := O.par a (by omega) (by omega)
          exact Or.inr ⟨l, l1, l2, l3⟩
    have nokid : ∀ k : Int, 0 ≤ k → k < a → L 0 (wn k) ≠ wn a := by
      intro k h1 h2 e
      by_cases k0 : k = 0
      · subst k0
        obtain ⟨q8, q9⟩ := O.root (by omega)
        have m := (mbrF_get W.mb (h := 47) (i := 0) ⟨by omega, by omega⟩ ⟨by omega, by omega⟩).2.1
        rw [← q9] at m
        omega
      · obtain ⟨-, l, l1, l2, l3⟩ := O.par k (by omega) (by omega)
        have := O.inj l a l1 (by omega) h0 (by omega) (by rw [l3, e])
        omega
    have une : ∀ y : Int, InT L y → y ≠ wn a → u y ≠ u (wn a) := fun y hy hn e => hn (R.inj y _ hy.1 hx.1 e)
    unfold bxG okB
    rw [row]
    by_cases z : isZ (wn a)
    · obtain ⟨s1, s2, s3, s4, s5, s6⟩ := bxS_e R F hf hl hV I.we hb hr hx z hB
      generalize bxS T Z (u (wn a)) = X at *
      have eV : VR u X = VR u Z := by funext y ax; unfold VR; rw [s4 7 _ (by omega), s4 8 _ (by omega)]
      have kidh : ∀ k : Int, 0 ≤ k → k < L 2 (wn a) → L 0 (mbrF L (wn a) k) = wn a := fun k h1 h2 => (mbrF_get W.mb (h := wn a) ⟨by omega, by omega⟩ ⟨h1, h2⟩).2.1
      have far : ∀ y ax : Int, InT L y → L 0 y ≠ wn a → sR u X y ax = sR u Z y ax ∧ zR u X y ax = zR u Z y ax := fun y ax hy hn => by
        have ho : ∀ k : Int, 0 ≤ k → k < L 2 (wn a) → u y ≠ u (mbrF L (wn a) k) := fun k h1 h2 e => by
          have := R.inj y _ hy.1 (kidT W z ⟨h1, h2⟩).1 e
          rw [this] at hn
          exact hn (kidh k h1 h2)
        unfold sR zR
        rw [s3 9 _ (by omega) (by omega) ho, s3 10 _ (by omega) (by omega) ho, s3 11 _ (by omega) (by omega) ho, s3 12 _ (by omega) (by omega) ho]
        exact ⟨rfl, rfl⟩
      have nself : L 0 (wn a) ≠ wn a := by
        intro e
        have := hr (wn a) b.1 b.2 (by rw [e]; exact z.1) (by rw [e]; exact z.2)
        rw [e] at this; omega
      have I' : BxI u L f w h r q wn X (a + 1) := by
        first | with_reducible refine BxI.mk ?_ ?_ ?_ ?_ ?_ ?_ | with_reducible refine WkI.mk ?_ ?_ ?_ ?_ ?_ ?_ | with_reducible refine PlE.mk ?_ ?_ ?_ ?_ ?_ | with_reducible refine Pl0.mk ?_ ?_ ?_ ?_ | with_reducible refine Tp.mk ?_ ?_ | with_reducible refine Vl.mk ?_ ?_ | with_reducible refine Lk.mk ?_ | with_reducible refine RfQ.mk ?_ ?_ ?_ ?_ | with_reducible refine ShQ.mk ?_ ?_ ?_ ?_ | with_reducible refine Que.mk ?_ ?_ ?_ ?_ ?_ ?_ ?_ ?_ | with_reducible refine QuI.mk ?_ ?_ ?_ ?_ ?_ ?_ | with_reducible refine Ord.mk ?_ ?_ ?_ ?_ ?_ ?_ ?_ ?_ ?_ ?_ | with_reducible refine LnI.mk ?_ ?_ ?_ ?_ ?_ ?_ ?_ ?_ ?_ ?_ ?_ ?_ ?_ ?_ ?_ ?_ ?_ | with_reducible refine Rl.mk ?_ ?_ ?_ ?_ ?_ ?_ ?_ ?_ ?_ ?_ ?_ ?_ ?_ | with_reducible refine Wf.mk ?_ ?_ ?_ ?_ ?_ ?_ ?_ ?_ ?_ ?_ ?_ | with_reducible refine Mb.mk ?_ ?_ ?_ ?_ ?_ | constructor
        · obtain ⟨o1, o2, o3, o4, o5, o6, o7, o8⟩ := O
          (first | with_reducible refine BxI.mk ?_ ?_ ?_ ?_ ?_ ?_ | with_reducible refine WkI.mk ?_ ?_ ?_ ?_ ?_ ?_ | with_reducible refine PlE.mk ?_ ?_ ?_ ?_ ?_ | with_reducible refine Pl0.mk ?_ ?_ ?_ ?_ | with_reducible refine Tp.mk ?_ ?_ | with_reducible refine Vl.mk ?_ ?_ | with_reducible refine Lk.mk ?_ | with_reducible refine RfQ.mk ?_ ?_ ?_ ?_ | with_reducible refine ShQ.mk ?_ ?_ ?_ ?_ | with_reducible refine Que.mk ?_ ?_ ?_ ?_ ?_ ?_ ?_ ?_ | with_reducible refine QuI.mk ?_ ?_ ?_ ?_ ?_ ?_ | with_reducible refine Ord.mk ?_ ?_ ?_ ?_ ?_ ?_ ?_ ?_ ?_ ?_ | with_reducible refine LnI.mk ?_ ?_ ?_ ?_ ?_ ?_ ?_ ?_ ?_ ?_ ?_ ?_ ?_ ?_ ?_ ?_ ?_ | with_reducible refine Rl.mk ?_ ?_ ?_ ?_ ?_ ?_ ?_ ?_ ?_ ?_ ?_ ?_ ?_ | with_reducible refine Wf.mk ?_ ?_ ?_ ?_ ?_ ?_ ?_ ?_ ?_ ?_ ?_ | with_reducible refine Mb.mk ?_ ?_ ?_ ?_ ?_ | constructor) <;> first | assumption | (intro k h1 h2; rw [s4 6 _ (by omega)]; exact o3 k h1 h2)
        · intro y hy; rw [eV]; exact I.we y hy
        · intro y hy e
          have a0 := far y 0 hy (by rw [e]; omega)
          have a1 := far y 1 hy (by rw [e]; omega)
          rw [a0.1, a0.2, a1.1, a1.2]
          exact I.ro y hy e
        · intro k h1 h2 hz
          by_cases y : k = a
          · rw [y, eV]; exact s1
          · have hk := O.rng k h1 (by omega)
            have nk := nokid k h1 (by omega)
            refine (I.be k h1 (by omega) hz).c eV (W.axs _ hz.1 hz.2) (fun ax _ => far _ ax hk nk) (fun l l1 l2 ax _ => far _ ax (kidT W hz ⟨l1, l2⟩) ?_)
            intro e
            have hl9 := (mbrF_get W.mb (h := wn k) (i := l) ⟨by have := hk.rg; omega, by have := hk.rg; omega⟩ ⟨l1, l2⟩).2.1
            rw [hl9] at e
            exact y (O.inj k a h1 (by omega) h0 (by omega) e)
        · intro y hy hp
          by_cases e : L 0 y = wn a
          · have rg := W.mb.rng y (by have := hy.rg; omega) (by have := hy.rg; omega) (by omega)
            rw [e] at rg
            have := s2 (L 1 y) rg.1 rg.2
            rw [mbrF_hit W.mb (h := wn a) ⟨by have := hy.rg; omega, by have := hy.rg; omega⟩ e (by omega)] at this
            exact this
          · have qq : BxR u Z r y := by
              refine I.bx y hy ?_
              rcases hp with h | ⟨l, l1, l2, l3⟩
              · exact Or.inl h
              · by_cases lj : l = a
                · rw [lj] at l3; exact absurd l3.symm e
                · exact Or.inr ⟨l, l1, by omega, l3⟩
            intro ax ha
            have := far y ax hy e
            rw [this.1, this.2]; exact qq ax ha
        · intro k h1 h2
          have hk := O.rng k h1 (by omega)
          by_cases y : k = a
          · rw [y, s5, if_pos rfl, if_pos z, eV, (far (wn a) _ hx nself).2]
          · rw [s5, if_neg (une _ hk (fun e => y (O.inj k a h1 (by omega) h0 (by omega) e))), I.ti k h1 (by omega), eV, (far (wn k) _ hk (nokid k h1 (by omega))).2]
      obtain ⟨b1, b2⟩ := bxG_e R F hf hl hV hb hr d (a + 1) X (by omega) (by omega) I'
      exact ⟨b1, fun _ => s6, b2⟩
    · have sp : ¬ spT T (u (wn a)) = 1 := fun y => z ((R.spl hx.1).mp y)
      have e : bxS T Z (u (wn a)) = up Z 13 (u (wn a)) 0 := by unfold bxS; rw [if_neg sp]
      rw [e]
      have xk : ∀ (w : Nat) (i : Int), w ≠ 13 → up Z 13 (u (wn a)) 0 w i = Z w i := fun w i hw => by rw [up_e, if_neg (by omega)]
      have eV : VR u (up Z 13 (u (wn a)) 0) = VR u Z := by funext y ax; unfold VR; rw [xk 7 _ (by omega), xk 8 _ (by omega)]
      have eS : sR u (up Z 13 (u (wn a)) 0) = sR u Z := by funext y ax; unfold sR; rw [xk 9 _ (by omega), xk 10 _ (by omega)]
      have eZ : zR u (up Z 13 (u (wn a)) 0) = zR u Z := by funext y ax; unfold zR; rw [xk 11 _ (by omega), xk 12 _ (by omega)]
      have I' : BxI u L f w h r q wn (up Z 13 (u (wn a)) 0) (a + 1) := by
        first | with_reducible refine BxI.mk ?_ ?_ ?_ ?_ ?_ ?_ | with_reducible refine WkI.mk ?_ ?_ ?_ ?_ ?_ ?_ | with_reducible refine PlE.mk ?_ ?_ ?_ ?_ ?_ | with_reducible refine Pl0.mk ?_ ?_ ?_ ?_ | with_reducible refine Tp.mk ?_ ?_ | with_reducible refine Vl.mk ?_ ?_ | with_reducible refine Lk.mk ?_ | with_reducible refine RfQ.mk ?_ ?_ ?_ ?_ | with_reducible refine ShQ.mk ?_ ?_ ?_ ?_ | with_reducible refine Que.mk ?_ ?_ ?_ ?_ ?_ ?_ ?_ ?_ | with_reducible refine QuI.mk ?_ ?_ ?_ ?_ ?_ ?_ | with_reducible refine Ord.mk ?_ ?_ ?_ ?_ ?_ ?_ ?_ ?_ ?_ ?_ | with_reducible refine LnI.mk ?_ ?_ ?_ ?_ ?_ ?_ ?_ ?_ ?_ ?_ ?_ ?_ ?_ ?_ ?_ ?_ ?_ | with_reducible refine Rl.mk ?_ ?_ ?_ ?_ ?_ ?_ ?_ ?_ ?_ ?_ ?_ ?_ ?_ | with_reducible refine Wf.mk ?_ ?_ ?_ ?_ ?_ ?_ ?_ ?_ ?_ ?_ ?_ | with_reducible refine Mb.mk ?_ ?_ ?_ ?_ ?_ | constructor
        · obtain ⟨o1, o2, o3, o4, o5, o6, o7, o8⟩ := O
          (first | with_reducible refine BxI.mk ?_ ?_ ?_ ?_ ?_ ?_ | with_reducible refine WkI.mk ?_ ?_ ?_ ?_ ?_ ?_ | with_reducible refine PlE.mk ?_ ?_ ?_ ?_ ?_ | with_reducible refine Pl0.mk ?_ ?_ ?_ ?_ | with_reducible refine Tp.mk ?_ ?_ | with_reducible refine Vl.mk ?_ ?_ | with_reducible refine Lk.mk ?_ | with_reducible refine RfQ.mk ?_ ?_ ?_ ?_ | with_reducible refine ShQ.mk ?_ ?_ ?_ ?_ | with_reducible refine Que.mk ?_ ?_ ?_ ?_ ?_ ?_ ?_ ?_ | with_reducible refine QuI.mk ?_ ?_ ?_ ?_ ?_ ?_ | with_reducible refine Ord.mk ?_ ?_ ?_ ?_ ?_ ?_ ?_ ?_ ?_ ?_ | with_reducible refine LnI.mk ?_ ?_ ?_ ?_ ?_ ?_ ?_ ?_ ?_ ?_ ?_ ?_ ?_ ?_ ?_ ?_ ?_ | with_reducible refine Rl.mk ?_ ?_ ?_ ?_ ?_ ?_ ?_ ?_ ?_ ?_ ?_ ?_ ?_ | with_reducible refine Wf.mk ?_ ?_ ?_ ?_ ?_ ?_ ?_ ?_ ?_ ?_ ?_ | with_reducible refine Mb.mk ?_ ?_ ?_ ?_ ?_ | constructor) <;> first | assumption | (intro k h1 h2; rw [xk 6 _ (by omega)]; exact o3 k h1 h2)
        · intro y hy; rw [eV]; exact I.we y hy
        · intro y hy e; rw [eS, eZ]; exact I.ro y hy e
        · intro k h1 h2 hz
          rw [eV, eS, eZ]
          by_cases y : k = a
          · rw [y] at hz; exact absurd hz z
          · exact I.be k h1 (by omega) hz
        · intro y hy hp
          have qq : BxR u Z r y := by
            refine I.bx y hy ?_
            rcases hp with h | ⟨l, l1, l2, l3⟩
            · exact Or.inl h
            · by_cases lj : l = a
              · rw [lj] at l3
                rcases hy.hol W with q | q
                · exact Or.inl q
                · rw [← l3] at q; exact absurd q z
              · exact Or.inr ⟨l, l1, by omega, l3⟩
          intro ax ha
          rw [eS, eZ]; exact qq ax ha
        · intro k h1 h2
          have hk := O.rng k h1 (by omega)
          rw [eV, eZ]
          by_cases y : k = a
          · rw [y, up_e, if_pos ⟨rfl, rfl⟩, if_neg z]
          · rw [up_e, if_neg (fun q => une _ hk (fun e => y (O.inj k a h1 (by omega) h0 (by omega) e)) q.2)]
            exact I.ti k h1 (by omega)
      obtain ⟨b1, b2⟩ := bxG_e R F hf hl hV hb hr d (a + 1) _ (by omega) (by omega) I'
      exact ⟨b1, fun q => absurd q sp, b2⟩
/-- what the reference's layout holds -/
theorem laZ_e {f : Int → Int} {w h : Int} {mu Z : Mem} {rr : Nat} (R : Rl u L T (-1) kq) (F : Fu L) (hf : LeB f) (hl : LeL f L) (hV : Vl L) (hR : R32Z Z) {r : Int → Nat} (hb : ∀ x : Int, r x ≤ 16) (hr : ∀ t : Int, 16 ≤ t → t < 47 → 32 ≤ L 0 t → L 0 t < 47 → r t < r (L 0 t))
    (hw : 0 ≤ w ∧ w ≤ 400) (hh : 0 ≤ h ∧ h ≤ 400) (hP : 0 ≤ mu (rr + 1) 2 ∧ mu (rr + 1) 2 ≤ 16) (hc : Cl L (mu (rr + 1) 2)) (hfr : ∀ p ax : Int, 0 ≤ p → p < 16 → (ax = 0 ∨ ax = 1) → leR mu rr ax p = f (2 * p + ax)) (hRm : R32 mu) :
    (∃ wn : Int → Int, BxI u L f w h r (quT T Z).1 wn (laZ mu rr T Z w h) (quT T Z).1) ∧ okB T (quT T Z).1.toNat 0 (la1 mu rr T Z w h) ∧ (0 ≤ (quT T Z).1 ∧ (quT T Z).1 ≤ 31) ∧
      ∀ g : Int, Us L (-1) g → L 0 g = 48 → laZ mu rr T Z w h 9 (u g) = L 6 (2 * (g - 16)) ∧ laZ mu rr T Z w h 10 (u g) = L 6 (2 * (g - 16) + 1) ∧ laZ mu rr T Z w h 11 (u g) = L 7 (2 * (g - 16)) ∧ laZ mu rr T Z w h 12 (u g) = L 7 (2 * (g - 16) + 1) := by
  have W := R.wf
  obtain ⟨⟨wn, Q⟩, qk⟩ := R.que Z
  have n0 := Q.n0
  have RQ : R32Z (quT T Z).2 := quT_R hR
  have le1 := leG_e R F hf hP hc hfr (quT T Z).1.toNat (quT T Z).2 RQ Q (by omega) (fun k h1 h2 => by omega)
  have lk := fun (k : Nat) (i : Int) h7 h8 => leG_k mu rr T (k := k) h7 h8 i (quT T Z).1.toNat (quT T Z).2
  have eL : la1 mu rr T Z w h = rtZ (quT T Z).1 (leG mu rr T (quT T Z).1.toNat (quT T Z).2) w h := rfl
  have eA : laZ mu rr T Z w h = ftP T (bxG T (quT T Z).1.toNat 0 (la1 mu rr T Z w h)) 32 := rfl
  generalize (quT T Z).1 = q at *
  generalize (quT T Z).2 = Zq at *
  generalize hY : leG mu rr T q.toNat Zq = Y at *
  have y6 : ∀ k : Int, 0 ≤ k → k < q → Y 6 k = u (wn k) := fun k h1 h2 => by rw [lk 6 k (by omega) (by omega)]; exact Q.row k h1 h2
  have xk : ∀ (k : Nat) (i : Int), k < 9 ∨ 12 < k → la1 mu rr T Z w h k i = Y k i := fun k i hk => by
    rw [eL]
    unfold rtZ
    split
    · unfold rbZ
      rw [up_e, if_neg (by omega), up_e, if_neg (by omega), up_e, if_neg (by omega), up_e, if_neg (by omega)]
    · rfl
  have xr : 0 < q → la1 mu rr T Z w h 9 (u (wn 0)) = 0 ∧ la1 mu rr T Z w h 10 (u (wn 0)) = 0 ∧ la1 mu rr T Z w h 11 (u (wn 0)) = w ∧ la1 mu rr T Z w h 12 (u (wn 0)) = h := fun hq => by
    rw [eL]
    unfold rtZ
    rw [if_pos hq]
    unfold rbZ
    rw [y6 0 (by omega) hq]
    refine ⟨?_, ?_, ?_, ?_⟩
    · rw [up_e, if_neg (by omega), up_e, if_neg (by omega), up_e, if_neg (by omega), up_e, if_pos ⟨rfl, rfl⟩]
    · rw [up_e, if_neg (by omega), up_e, if_neg (by omega), up_e, if_pos ⟨rfl, rfl⟩]
    · rw [up_e, if_neg (by omega), up_e, if_pos ⟨rfl, rfl⟩]
    · rw [up_e, if_pos ⟨rfl, rfl⟩]
  generalize la1 mu rr T Z w h = X at *
  have I0 : BxI u L f w h r q wn X 0 := by
    have ro : ∀ x : Int, InT L x → L 0 x = 47 → sR u X x 0 = 0 ∧ sR u X x 1 = 0 ∧ zR u X x 0 = w ∧ zR u X x 1 = h := by
      intro x hx e
      obtain ⟨k, k1, k2, k3⟩ := Q.all x hx
      have e2 := (hx.root W e).2
      have e3 := (Q.root (by omega)).2
      have a := xr (by omega)
      rw [e3, e2] at a
      exact a
    first | with_reducible refine BxI.mk ?_ ?_ ?_ ?_ ?_ ?_ | with_reducible refine WkI.mk ?_ ?_ ?_ ?_ ?_ ?_ | with_reducible refine PlE.mk ?_ ?_ ?_ ?_ ?_ | with_reducible refine Pl0.mk ?_ ?_ ?_ ?_ | with_reducible refine Tp.mk ?_ ?_ | with_reducible refine Vl.mk ?_ ?_ | with_reducible refine Lk.mk ?_ | with_reducible refine RfQ.mk ?_ ?_ ?_ ?_ | with_reducible refine ShQ.mk ?_ ?_ ?_ ?_ | with_reducible refine Que.mk ?_ ?_ ?_ ?_ ?_ ?_ ?_ ?_ | with_reducible refine QuI.mk ?_ ?_ ?_ ?_ ?_ ?_ | with_reducible refine Ord.mk ?_ ?_ ?_ ?_ ?_ ?_ ?_ ?_ ?_ ?_ | with_reducible refine LnI.mk ?_ ?_ ?_ ?_ ?_ ?_ ?_ ?_ ?_ ?_ ?_ ?_ ?_ ?_ ?_ ?_ ?_ | with_reducible refine Rl.mk ?_ ?_ ?_ ?_ ?_ ?_ ?_ ?_ ?_ ?_ ?_ ?_ ?_ | with_reducible refine Wf.mk ?_ ?_ ?_ ?_ ?_ ?_ ?_ ?_ ?_ ?_ ?_ | with_reducible refine Mb.mk ?_ ?_ ?_ ?_ ?_ | constructor
    · obtain ⟨o1, o2, o3, o4, o5, o6, o7, o8⟩ := Q
      (first | with_reducible refine BxI.mk ?_ ?_ ?_ ?_ ?_ ?_ | with_reducible refine WkI.mk ?_ ?_ ?_ ?_ ?_ ?_ | with_reducible refine PlE.mk ?_ ?_ ?_ ?_ ?_ | with_reducible refine Pl0.mk ?_ ?_ ?_ ?_ | with_reducible refine Tp.mk ?_ ?_ | with_reducible refine Vl.mk ?_ ?_ | with_reducible refine Lk.mk ?_ | with_reducible refine RfQ.mk ?_ ?_ ?_ ?_ | with_reducible refine ShQ.mk ?_ ?_ ?_ ?_ | with_reducible refine Que.mk ?_ ?_ ?_ ?_ ?_ ?_ ?_ ?_ | with_reducible refine QuI.mk ?_ ?_ ?_ ?_ ?_ ?_ | with_reducible refine Ord.mk ?_ ?_ ?_ ?_ ?_ ?_ ?_ ?_ ?_ ?_ | with_reducible refine LnI.mk ?_ ?_ ?_ ?_ ?_ ?_ ?_ ?_ ?_ ?_ ?_ ?_ ?_ ?_ ?_ ?_ ?_ | with_reducible refine Rl.mk ?_ ?_ ?_ ?_ ?_ ?_ ?_ ?_ ?_ ?_ ?_ ?_ ?_ | with_reducible refine Wf.mk ?_ ?_ ?_ ?_ ?_ ?_ ?_ ?_ ?_ ?_ ?_ | with_reducible refine Mb.mk ?_ ?_ ?_ ?_ ?_ | constructor) <;> first | assumption | (intro k h1 h2; rw [xk 6 _ (by omega)]; exact y6 k h1 h2)
    · intro x hx
      obtain ⟨k, k1, k2, k3⟩ := Q.all x hx
      have eV : VR u X = VR u Y := by funext y ax; unfold VR; rw [xk 7 _ (by omega), xk 8 _ (by omega)]
      rw [eV, ← k3]
      exact le1 k k1 k2
    · exact ro
    · intro k h1 h2; omega
    · intro x hx hp
      rcases hp with e | ⟨l, l1, l2, -⟩
      · obtain ⟨a1, a2, a3, a4⟩ := ro x hx e
        have rx := hb x
        intro ax ha
        rcases ha with rfl | rfl
        · rw [a1, a3]; omega
        · rw [a2, a4]; omega
      · omega
    · intro k h1 h2; omega
  obtain ⟨I, ok⟩ := bxG_e R F hf hl hV hb hr q.toNat 0 X (by omega) (by omega) I0
  refine ⟨⟨wn, ?_⟩, ok, n0, fun g hg e => ?_⟩
  · rw [eA]
    generalize bxG T q.toNat 0 X = B at *
    have fk : ∀ (k : Nat) (i : Int), k < 9 ∨ 12 < k → ftP T B 32 k i = B k i := fun k i hk => by unfold ftP; rw [if_neg (by omega)]
    have ft : ∀ (k : Nat) (x : Int), InT L x → ftP T B 32 k (u x) = B k (u x) := fun k x hx => by
      have kd := R.knd x hx.1
      have n4 : T 0 (u x) ≠ 4 := by
        have hz : 32 ≤ L 0 x ∧ L 0 x < 48 := by
          have q := hx.hol W
          unfold isZ at q
          omega
        have c := R.kndC (t := x) ⟨by have := hx.rg; omega, by have := hx.rg; omega⟩ hz
        omega
      unfold ftP
      rw [if_neg (fun q => n4 q.2.2.2)]
    have eV : VR u (ftP T B 32) = VR u B := by funext y ax; unfold VR; rw [fk 7 _ (by omega), fk 8 _ (by omega)]
    have eS : ∀ x ax, InT L x → sR u (ftP T B 32) x ax = sR u B x ax ∧ zR u (ftP T B 32) x ax = zR u B x ax := fun x ax hx => by
      unfold sR zR
      rw [ft 9 x hx, ft 10 x hx, ft 11 x hx, ft 12 x hx]
      exact ⟨rfl, rfl⟩
    first | with_reducible refine BxI.mk ?_ ?_ ?_ ?_ ?_ ?_ | with_reducible refine WkI.mk ?_ ?_ ?_ ?_ ?_ ?_ | with_reducible refine PlE.mk ?_ ?_ ?_ ?_ ?_ | with_reducible refine Pl0.mk ?_ ?_ ?_ ?_ | with_reducible refine Tp.mk ?_ ?_ | with_reducible refine Vl.mk ?_ ?_ | with_reducible refine Lk.mk ?_ | with_reducible refine RfQ.mk ?_ ?_ ?_ ?_ | with_reducible refine ShQ.mk ?_ ?_ ?_ ?_ | with_reducible refine Que.mk ?_ ?_ ?_ ?_ ?_ ?_ ?_ ?_ | with_reducible refine QuI.mk ?_ ?_ ?_ ?_ ?_ ?_ | with_reducible refine Ord.mk ?_ ?_ ?_ ?_ ?_ ?_ ?_ ?_ ?_ ?_ | with_reducible refine LnI.mk ?_ ?_ ?_ ?_ ?_ ?_ ?_ ?_ ?_ ?_ ?_ ?_ ?_ ?_ ?_ ?_ ?_ | with_reducible refine Rl.mk ?_ ?_ ?_ ?_ ?_ ?_ ?_ ?_ ?_ ?_ ?_ ?_ ?_ | with_reducible refine Wf.mk ?_ ?_ ?_ ?_ ?_ ?_ ?_ ?_ ?_ ?_ ?_ | with_reducible refine Mb.mk ?_ ?_ ?_ ?_ ?_ | constructor
    · obtain ⟨o1, o2, o3, o4, o5, o6, o7, o8⟩ := I.qe
      (first | with_reducible refine BxI.mk ?_ ?_ ?_ ?_ ?_ ?_ | with_reducible refine WkI.mk ?_ ?_ ?_ ?_ ?_ ?_ | with_reducible refine PlE.mk ?_ ?_ ?_ ?_ ?_ | with_reducible refine Pl0.mk ?_ ?_ ?_ ?_ | with_reducible refine Tp.mk ?_ ?_ | with_reducible refine Vl.mk ?_ ?_ | with_reducible refine Lk.mk ?_ | with_reducible refine RfQ.mk ?_ ?_ ?_ ?_ | with_reducible refine ShQ.mk ?_ ?_ ?_ ?_ | with_reducible refine Que.mk ?_ ?_ ?_ ?_ ?_ ?_ ?_ ?_ | with_reducible refine QuI.mk ?_ ?_ ?_ ?_ ?_ ?_ | with_reducible refine Ord.mk ?_ ?_ ?_ ?_ ?_ ?_ ?_ ?_ ?_ ?_ | with_reducible refine LnI.mk ?_ ?_ ?_ ?_ ?_ ?_ ?_ ?_ ?_ ?_ ?_ ?_ ?_ ?_ ?_ ?_ ?_ | with_reducible refine Rl.mk ?_ ?_ ?_ ?_ ?_ ?_ ?_ ?_ ?_ ?_ ?_ ?_ ?_ | with_reducible refine Wf.mk ?_ ?_ ?_ ?_ ?_ ?_ ?_ ?_ ?_ ?_ ?_ | with_reducible refine Mb.mk ?_ ?_ ?_ ?_ ?_ | constructor) <;> first | assumption | (intro k h1 h2; rw [fk 6 _ (by omega)]; exact o3 k h1 h2)
    · intro x hx; rw [eV]; exact I.we x hx
    · intro x hx e
      rw [(eS x 0 hx).1, (eS x 1 hx).1, (eS x 0 hx).2, (eS x 1 hx).2]
      exact I.ro x hx e
    · intro k h1 h2 hz
      have hk := Q.rng k h1 h2
      exact (I.be k h1 h2 hz).c eV (W.axs _ hz.1 hz.2) (fun ax _ => eS _ ax hk) (fun l l1 l2 ax _ => eS _ ax (kidT W hz ⟨l1, l2⟩))
    · intro x hx hp ax ha
      rw [(eS x ax hx).1, (eS x ax hx).2]
      exact I.bx x hx hp ax ha
    · intro k h1 h2
      have hk := Q.rng k h1 h2
      rw [fk 13 _ (by omega), I.ti k h1 h2, eV, (eS _ _ hk).2]
  · have b := hg.1
    have hB := R.box g hg e
    have kd := R.knd g hg
    have rg := R.rng g hg
    have g32 : g < 32 := by have := W.spl g; omega
    unfold kindL at kd
    rw [if_pos g32, if_neg (by omega), if_pos e] at kd
    rw [eA]
    unfold ftP
    rw [if_pos ⟨by omega, rg.1, rg.2, kd⟩, if_pos ⟨by omega, rg.1, rg.2, kd⟩, if_pos ⟨by omega, rg.1, rg.2, kd⟩, if_pos ⟨by omega, rg.1, rg.2, kd⟩]
    exact hB
end QU
