/-! the least sizes: the reference's pass -/
theorem gmG_b {f : Int → Int} {T : Mem} {g c : Int} (hc : 0 ≤ c) : ∀ m : Nat, (∀ o : Int, 0 ≤ o → o < m → T 9 o = g → f o ≤ c) → 0 ≤ gmG f T g m ∧ gmG f T g m ≤ c
  | 0, _ => by show (0 : Int) ≤ 0 ∧ (0 : Int) ≤ c; omega
  | m + 1, h => by
    have ih := gmG_b hc m (fun o h1 h2 => h o h1 (by omega))
    have := h m (by omega) (by omega)
    unfold gmG
    split
    · rename_i z
      have := this z
      split <;> omega
    · exact ih
theorem gmG_ge {f : Int → Int} {T : Mem} {g : Int} : ∀ m : Nat, ∀ o : Int, 0 ≤ o → o < m → T 9 o = g → f o ≤ gmG f T g m
  | 0, o, h1, h2, _ => by omega
  | m + 1, o, h1, h2, h3 => by
    unfold gmG
    by_cases z : o = m
    · subst z; rw [if_pos h3]; split <;> omega
    · have := gmG_ge m o h1 (by omega) h3 (f := f)
      split
      · split <;> omega
      · exact this
section QU
variable {u : Int → Int} {L T : Mem} {kq : Int}
theorem Rl.gm (R : Rl u L T (-1) kq) {f fr : Int → Int} {x ax P : Int} (hx : Us L (-1) x) (h32 : x < 32) (hP : 0 ≤ P ∧ P ≤ 16) (hc : Cl L P) (hf : ∀ p : Int, 0 ≤ p → p < 16 → 0 ≤ f (2 * p + ax) ∧ fr p = f (2 * p + ax)) :
    gmG fr T (u x) P.toNat = gmx f L x ax (L 2 x).toNat := by
  have b := hx.1
  have nn := R.wf.mb.nng x (by omega) (by omega)
  have ux := R.rng x hx
  rw [← mmG_gmx]
  have mem : ∀ j : Int, 0 ≤ j → j < ((L 2 x).toNat : Int) → (0 ≤ mbrF L x j ∧ mbrF L x j < 16) ∧ L 0 (mbrF L x j) = x ∧ L 1 (mbrF L x j) = j ∧ mbrF L x j < P ∧ T 9 (mbrF L x j) = u x := by
    intro j h1 h2
    obtain ⟨a, c, d⟩ := mbrF_get R.wf.mb (h := x) (i := j) ⟨by omega, by omega⟩ ⟨h1, by omega⟩
    have e := R.wf.memG a (by omega)
    have p := R.pan _ a.1 e
    rw [if_neg (by omega), c] at p
    refine ⟨⟨a.1, e⟩, c, d, ?_, p⟩
    by_cases z : mbrF L x j < P
    · exact z
    · have := hc _ (by omega) e; omega
  have le1 : gmG fr T (u x) P.toNat ≤ mmG (fun j => f (2 * mbrF L x j + ax)) (L 2 x).toNat := by
    have m0 : 0 ≤ mmG (fun j => f (2 * mbrF L x j + ax)) (L 2 x).toNat := by
      have : ∀ m : Nat, 0 ≤ mmG (fun j => f (2 * mbrF L x j + ax)) m := by
        intro m
        induction m with
        | zero => exact Int.le_refl _
        | succ m ih => unfold mmG; split <;> omega
      exact this _
    refine (gmG_b m0 P.toNat (fun o h1 h2 h3 => ?_)).2
    have po := R.pan o h1 (by omega)
    by_cases z : L 0 o = -1
    · rw [if_pos z] at po; omega
    · rw [if_neg z] at po
      have e : L 0 o = x := R.inj _ _ (R.pus ⟨h1, by omega⟩ z) hx (by omega)
      have rg := R.wf.mb.rng o h1 (by omega) z
      have hit := mbrF_hit R.wf.mb (h := x) (t := o) ⟨h1, by omega⟩ e (by omega)
      rw [e] at rg
      have g := mmG_ge (f := fun j => f (2 * mbrF L x j + ax)) (L 2 x).toNat (L 1 o) rg.1 (by omega)
      have g : f (2 * mbrF L x (L 1 o) + ax) ≤ _ := g
      rw [hit] at g
      rw [(hf o h1 (by omega)).2]
      exact g
  have le2 : mmG (fun j => f (2 * mbrF L x j + ax)) (L 2 x).toNat ≤ gmG fr T (u x) P.toNat := by
    have g0 : 0 ≤ gmG fr T (u x) P.toNat := by
      have : ∀ m : Nat, 0 ≤ gmG fr T (u x) m := by
        intro m
        induction m with
        | zero => exact Int.le_refl _
        | succ m ih => unfold gmG; split; · split <;> omega
                       · exact ih
      exact this _
    refine (mmG_b g0 _ (fun j h1 h2 => ?_)).2
    obtain ⟨a, c, d, e, g⟩ := mem j h1 h2
    have := gmG_ge (f := fr) (T := T) P.toNat (mbrF L x j) a.1 (by omega) g
    rw [(hf _ a.1 a.2).2] at this
    exact this
  omega
theorem leG_e (R : Rl u L T (-1) kq) (F : Fu L) {f : Int → Int} (hf : LeB f) {mu : Mem} {r : Nat} {q : Int} {w : Int → Int} (hP : 0 ≤ mu (r + 1) 2 ∧ mu (r + 1) 2 ≤ 16) (hc : Cl L (mu (r + 1) 2)) (hfr : ∀ p ax : Int, 0 ≤ p → p < 16 → (ax = 0 ∨ ax = 1) → leR mu r ax p = f (2 * p + ax)) :
    ∀ (a : Nat) (Z : Mem), R32Z Z → Que u L Z q w → (a : Int) ≤ q → (∀ k : Int, a ≤ k → k < q → WE f L (VR u Z) (w k)) → ∀ k : Int, 0 ≤ k → k < q → WE f L (VR u (leG mu r T a Z)) (w k)
  | 0, Z, _, _, _, h => fun k h1 h2 => h k h1 h2
  | a + 1, Z, hR, Qu, ha, h => by
    have W := R.wf
    have hx := Qu.rng a (by omega) (by omega)
    have row := Qu.row a (by omega) (by omega)
    have b := hx.rg
    have nself : L 0 (w a) ≠ w a := by
      intro e
      rcases hx.hol W with z | z
      · rw [e] at z; omega
      · obtain ⟨r9, hr9⟩ := W.rank
        have := hr9 _ b.1 b.2 z.1 z.2
        rw [e] at this; omega
    have kne : ∀ j : Int, 0 ≤ j → j < L 2 (w a) → isZ (w a) → mbrF L (w a) j ≠ w a := by
      intro j h1 h2 z e
      obtain ⟨a, c, -⟩ := mbrF_get W.mb (h := w a) (i := j) ⟨by omega, by omega⟩ ⟨h1, h2⟩
      rw [e] at c
      exact nself c
    have une : ∀ x : Int, InT L x → x ≠ w a → u x ≠ u (w a) := fun x hx' hn e => hn (R.inj x (w a) hx'.1 hx.1 e)
    have sp := R.spl hx.1
    have kd := R.knd _ hx.1
    have nn := W.mb.nng (w a) (by omega) (by omega)
    unfold leG
    rw [row]
    generalize hX : (if spT T (u (w a)) = 1 then lsZ T Z (u (w a)) else lgZ mu r T Z (u (w a))) = X at *
    have xk : ∀ (k : Nat) (i : Int), k ≠ 7 → k ≠ 8 → X k i = Z k i := fun k i h7 h8 => by
      rw [← hX]; split
      · exact lsZ_k h7 h8
      · exact lgZ_k h7 h8
    have xo : ∀ (i : Int), i ≠ u (w a) → X 7 i = Z 7 i ∧ X 8 i = Z 8 i := fun i hi => by
      rw [← hX]; split
      · unfold lsZ; refine ⟨?_, ?_⟩
        · rw [up_e, if_neg (by omega), up_e, if_neg (fun y => hi y.2)]
        · rw [up_e, if_neg (fun y => hi y.2), up_e, if_neg (by omega)]
      · unfold lgZ; refine ⟨?_, ?_⟩
        · rw [up_e, if_neg (by omega), up_e, if_neg (fun y => hi y.2)]
        · rw [up_e, if_neg (fun y => hi y.2), up_e, if_neg (by omega)]
    have xV : ∀ x ax : Int, InT L x → x ≠ w a → VR u X x ax = VR u Z x ax := fun x ax hx' hn => by
      have := xo (u x) (une x hx' hn)
      unfold VR
      rw [this.1, this.2]
    have hXR : R32Z X := by
      rw [← hX]; split
      · exact lsZ_R hR _
      · exact (hR.upd 7 _ (by
          have := gmG_b (f := leR mu r 0) (T := T) (g := u (w a)) (c := 60) (by omega) (mu (r + 1) 2).toNat (fun o h1 h2 _ => by rw [hfr o 0 h1 (by omega) (Or.inl rfl)]; exact (hf o 0 h1 (by omega) (Or.inl rfl)).2)
          omega)).upd 8 _ (wr_b _)
    have xW : WE f L (VR u X) (w a) := by
      intro ax hax
      by_cases z : isZ (w a)
      · have s1 := sp.mpr z
        have hZ1 := hX
        rw [if_pos s1] at hZ1
        have kids := R.kids hx.1 z.1
        have kid := fun j h1 h2 => R.kid hx.1 z.1 (k := j) ⟨h1, h2⟩
        unfold kindL at kd
        rw [if_neg (show ¬ w a < 32 by have := z.1; omega)] at kd
        have axs := W.axs (w a) z.1 z.2
        have e7 : ∀ j : Int, 0 ≤ j → j < ((L 2 (w a)).toNat : Int) → Z 7 (chT T (u (w a)) j) = VR u X (mbrF L (w a) j) 0 := fun j h1 h2 => by
          rw [kid j h1 (by omega), xV _ 0 (kidT W z ⟨h1, by omega⟩) (kne j h1 (by omega) z)]; rfl
        have e8 : ∀ j : Int, 0 ≤ j → j < ((L 2 (w a)).toNat : Int) → Z 8 (chT T (u (w a)) j) = VR u X (mbrF L (w a) j) 1 := fun j h1 h2 => by
          rw [kid j h1 (by omega), xV _ 1 (kidT W z ⟨h1, by omega⟩) (kne j h1 (by omega) z)]; rfl
        have x7 : X 7 (u (w a)) = wr (if T 0 (u (w a)) = 2 then smG (fun k => Z 7 (chT T (u (w a)) k)) (kdT T (u (w a))).toNat + kdT T (u (w a)) - 1 else mmG (fun k => Z 7 (chT T (u (w a)) k)) (kdT T (u (w a))).toNat) := by
          rw [← hZ1]; unfold lsZ; rw [up_e, if_neg (by omega), up_e, if_pos ⟨rfl, rfl⟩]
        have x8 : X 8 (u (w a)) = wr (if T 0 (u (w a)) = 2 then mmG (fun k => Z 8 (chT T (u (w a)) k)) (kdT T (u (w a))).toNat else smG (fun k => Z 8 (chT T (u (w a)) k)) (kdT T (u (w a))).toNat + kdT T (u (w a)) - 1) := by
          rw [← hZ1]; unfold lsZ; rw [up_e, if_pos ⟨rfl, rfl⟩]
        rw [kids, kd, smG_ext _ e7, mmG_ext _ e7] at x7
        rw [kids, kd, smG_ext _ e8, mmG_ext _ e8] at x8
        rw [if_pos z]
        have mb := fun (ax : Int) (hax : ax = 0 ∨ ax = 1) => mmG_b (f := fun j => VR u X (mbrF L (w a) j) ax) (c := 2147483647) (by omega) (L 2 (w a)).toNat (fun o _ _ => by
          show VR u X (mbrF L (w a) o) ax ≤ 2147483647
          unfold VR
          split
          · exact (hXR 7 _ (by omega)).2
          · exact (hXR 8 _ (by omega)).2)
        rcases hax with rfl | rfl
        · show (if (0 : Int) = 0 then X 7 (u (w a)) else X 8 (u (w a))) = _
          have m0 := mb 0 (Or.inl rfl)
          rw [if_pos rfl, x7]
          by_cases y : L 5 (w a - 32) = 0
          · rw [if_pos y, if_pos (by omega)]
          · rw [if_neg y, if_neg (by omega), wr_id (by omega)]
        · show (if (1 : Int) = 0 then X 7 (u (w a)) else X 8 (u (w a))) = _
          have m1 := mb 1 (Or.inr rfl)
          rw [if_neg (by omega), x8]
          by_cases y : L 5 (w a - 32) = 1
          · rw [if_pos y, if_neg (by omega)]
          · rw [if_neg y, if_pos (by omega), wr_id (by omega)]
      · have s1 : ¬ spT T (u (w a)) = 1 := fun y => z (sp.mp y)
        have hZ1 := hX
        rw [if_neg s1] at hZ1
        have h32 : w a < 32 := by unfold isZ at z; omega
        have g0 := R.gm (f := f) (fr := leR mu r 0) (x := w a) (ax := 0) hx.1 h32 hP hc (fun p h1 h2 => ⟨(hf p 0 h1 h2 (Or.inl rfl)).1, hfr p 0 h1 h2 (Or.inl rfl)⟩)
        have g1 := R.gm (f := f) (fr := leR mu r 1) (x := w a) (ax := 1) hx.1 h32 hP hc (fun p h1 h2 => ⟨(hf p 1 h1 h2 (Or.inr rfl)).1, hfr p 1 h1 h2 (Or.inr rfl)⟩)
        have gb := gmx_b W hf (x := w a) ⟨b.1, h32⟩ (ax := 1) (Or.inr rfl) (L 2 (w a)).toNat (by omega)
        rw [if_neg z]
        rcases hax with rfl | rfl
        · show (if (0 : Int) = 0 then X 7 (u (w a)) else X 8 (u (w a))) = _
          rw [if_pos rfl, ← hZ1]; unfold lgZ
          rw [up_e, if_neg (by omega), up_e, if_pos ⟨rfl, rfl⟩, g0]; omega
        · show (if (1 : Int) = 0 then X 7 (u (w a)) else X 8 (u (w a))) = _
          rw [if_neg (by omega), ← hZ1]; unfold lgZ
          rw [up_e, if_pos ⟨rfl, rfl⟩, g1, wr_id (by omega)]
    refine leG_e R F hf hP hc hfr a X hXR ?_ (by omega) (fun k h1 h2 => ?_)
    · obtain ⟨o1, o2, o3, o4, o5, o6, o7, o8⟩ := Qu
      (first | with_reducible refine Que.mk ?_ ?_ ?_ ?_ ?_ ?_ ?_ ?_ | with_reducible refine QuI.mk ?_ ?_ ?_ ?_ ?_ ?_ | with_reducible refine Ord.mk ?_ ?_ ?_ ?_ ?_ ?_ ?_ ?_ ?_ ?_ | with_reducible refine LnI.mk ?_ ?_ ?_ ?_ ?_ ?_ ?_ ?_ ?_ ?_ ?_ ?_ ?_ ?_ ?_ ?_ ?_ | with_reducible refine Rl.mk ?_ ?_ ?_ ?_ ?_ ?_ ?_ ?_ ?_ ?_ ?_ ?_ ?_ | with_reducible refine Wf.mk ?_ ?_ ?_ ?_ ?_ ?_ ?_ ?_ ?_ ?_ ?_ | with_reducible refine Mb.mk ?_ ?_ ?_ ?_ ?_ | constructor) <;> first | assumption | (intro k h1 h2; rw [xk 6 _ (by omega) (by omega)]; exact o3 k h1 h2)
    · by_cases z : k = a
      · rw [z]; exact xW
      · have hk := Qu.rng k (by omega) h2
        have nk : w k ≠ w a := fun e => z (Qu.inj k a (by omega) h2 (by omega) (by omega) e)
        have wk := h k (by omega) h2
        refine WE.cong W hk.rg wk (fun ax => xV _ ax hk nk) (fun j ax y j1 j2 => ?_)
        refine xV _ ax (kidT W y ⟨j1, j2⟩) ?_
        intro e
        obtain ⟨-, c, -⟩ := mbrF_get W.mb (h := w k) (i := j) ⟨by have := hk.rg; omega, by have := hk.rg; omega⟩ ⟨j1, j2⟩
        rw [e] at c
        by_cases a0 : a = 0
        · subst a0
          obtain ⟨q8, q9⟩ := Qu.root (by omega)
          have m := (mbrF_get W.mb (h := 47) (i := 0) ⟨by omega, by omega⟩ ⟨by omega, by omega⟩).2.1
          rw [← q9] at m
          have q9' : w ((0 : Nat) : Int) = w 0 := rfl
          rw [q9', m] at c
          have := hk.rg; omega
        · obtain ⟨-, l, l1, l2, l3⟩ := Qu.par a (by omega) (by omega)
          have := Qu.inj l k l1 (by omega) (by omega) h2 (by rw [l3, c])
          omega
end QU
