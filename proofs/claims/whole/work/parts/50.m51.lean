/-! THE TEXT, and the questions: floating -/
section Q2
variable {N : Int} {mu : Mem} {c h t p b q r : Nat}
/-- only the text is touched -/
theorem Inv.text (O : Od c h t p b q r) (A : Inv N mu c h t p b r) {m : Mem} (R : R32 m) (e0 : ∀ (x : Nat) (i : Int), x < r → x ≠ t + 1 → ¬ (x = t ∧ i = 2) → m x i = mu x i) (e1 : ∀ (x : Nat) (i : Int), (x = r + 1 ∨ x = r + 2) → m x i = mu x i) (e4 : m r 4 = mu r 4) (ht : TxR m t (m (r + 5)) (m r 6)) : Inv N m c h t p b r := by
  obtain ⟨A, -⟩ := A
  obtain ⟨o1, o2, o3, o4, o5, o6⟩ := O
  obtain ⟨a1, a2, a3, a4, ⟨rk, a5, a6⟩, a7⟩ := A
  refine ⟨?_, R⟩
  rw [e4]
  have eL : Jvm.Pilot.CDockTreeLaw_law_r8737_963889.lay m (c + 2) = Jvm.Pilot.CDockTreeLaw_law_r8737_963889.lay mu (c + 2) := by
    funext k i
    show (if _ then _ else _) = (if _ then _ else _)
    by_cases z : k ≤ 7
    · rw [if_pos z, if_pos z]; exact e0 _ _ (by omega) (by omega) (by omega)
    · rw [if_neg z, if_neg z]
  have ep : Jvm.Pilot.CDockTreeLaw_law_r8737_963889.pl m p = Jvm.Pilot.CDockTreeLaw_law_r8737_963889.pl mu p := by
    funext k i
    show (if _ then _ else _) = (if _ then _ else _)
    by_cases z : k < 14
    · rw [if_pos z, if_pos z]; exact e0 _ _ (by omega) (by omega) (by omega)
    · rw [if_neg z, if_neg z]
  have ef : m (c + 1) = mu (c + 1) := funext fun i => e0 _ _ (by omega) (by omega) (by omega)
  refine CR.mk ?_ ?_ ht ?_ ⟨rk, ?_, ?_⟩ ?_
  · exact a1.off (fun x i h1 h2 => e0 x i (by omega) (by omega) (by omega)) (fun i _ _ => e1 _ i (Or.inl rfl))
  · exact a2.off (fun x i h1 h2 => e0 x i (by omega) (by omega) (by omega)) (fun i _ _ => e1 _ i (Or.inr rfl))
  · rw [e0 _ _ (by omega) (by omega) (by omega)]; exact a4
  · rw [eL]; exact a5
  · rw [eL, ef, ep, e0 c 0 (by omega) (by omega) (by omega), e0 c 1 (by omega) (by omega) (by omega)]; exact a6
  · exact a7.off (fun x i hx => e0 x i (by unfold rowsC at hx; omega) (by unfold rowsC at hx; omega) (by unfold rowsC at hx; omega))
theorem O_type_f (A : Inv N mu c h t p b r) (x : Int) : (if tyF9 (mu r 6) x = 1 then 2 else if tyF9 (mu r 6) x = 2 then 3 else tyF9 (mu r 6) x) = ftyF mu t x := by
  have tt := A.1.tt
  unfold TxR at tt
  unfold tyF9 ftyF
  rw [tt.1]
  (repeat' split) <;> omega
theorem O_type (O : Od c h t p b q r) (A : Inv N mu c h t p b r) (hN : 0 ≤ N ∧ N ≤ 10000000) {x : Int} (hf : ftyF mu t x = 0) {mu1 : Mem} (e1 : mu1 = up (up mu (t + 1) (mu t 2) x) t 2 (mu t 2 + 1)) :
    mu t 2 + 1 = mu1 r 6 + 1 ∧ mu1 r 6 = mu r 6 ∧ MWo mu1 r ∧ Inv N (up (up (up mu1 (r + 5) (mu1 r 6) x) r 6 (mu1 r 6 + 1)) r 7 0) c h t p b r ∧ up (up (up mu1 (r + 5) (mu1 r 6) x) r 6 (mu1 r 6 + 1)) r 7 0 r 7 = 0 := by
  have O' := O
  obtain ⟨o1, o2, o3, o4, o5, o6⟩ := O'
  have mw := A.mw hN
  have tt := A.1.tt
  unfold TxR at tt
  have hx : (0 ≤ x ∧ x ≤ 127) ∧ mu t 2 < 150 := by
    unfold ftyF at hf
    split at hf
    · split at hf
      · exact ⟨by assumption, by assumption⟩
      · omega
    · omega
  have c3 : ∀ (y : Nat) (i : Int), r ≤ y → mu1 y i = mu y i := fun y i hy => by rw [e1, up_a _ _ _ _ (by omega), up_a _ _ _ _ (by omega)]
  have R1 : R32 mu1 := by rw [e1]; exact R32_up (R32_up A.2 _ _ (by omega)) _ _ (by omega)
  have e6 := c3 r 6 (by omega)
  refine ⟨by rw [e6, tt.1], e6, mw.off R1 c3, ?_, by rw [up_e, if_pos ⟨rfl, rfl⟩]⟩
  rw [e6]
  have off : ∀ (y : Nat) (i : Int), y ≠ r + 5 → ¬ (y = r ∧ (i = 6 ∨ i = 7)) → up (up (up mu1 (r + 5) (mu r 6) x) r 6 (mu r 6 + 1)) r 7 0 y i = mu1 y i := fun y i h1 h2 => by
    rw [up_e, if_neg (by omega), up_e, if_neg (by omega), up_a _ _ _ _ h1]
  refine A.text O (R32_up (R32_up (R32_up R1 _ _ (by omega)) _ _ (by omega)) _ _ (by omega)) (fun y i h1 h2 h3 => ?_) (fun y i hy => ?_) ?_ ?_
  · rw [off _ _ (by omega) (by omega), e1, up_e, if_neg (by omega), up_a _ _ _ _ h2]
  · rw [off _ _ (by omega) (by omega), c3 _ _ (by omega)]
  · rw [off _ _ (by omega) (by omega), c3 _ _ (by omega)]
  · have f6 : up (up (up mu1 (r + 5) (mu r 6) x) r 6 (mu r 6 + 1)) r 7 0 r 6 = mu r 6 + 1 := by rw [up_e, if_neg (by omega), up_e, if_pos ⟨rfl, rfl⟩]
    have f5 : ∀ i : Int, up (up (up mu1 (r + 5) (mu r 6) x) r 6 (mu r 6 + 1)) r 7 0 (r + 5) i = if i = mu r 6 then x else mu (r + 5) i := fun i => by
      rw [up_a _ _ _ _ (by omega), up_a _ _ _ _ (by omega), up_e]
      by_cases z : i = mu r 6
      · rw [if_pos ⟨rfl, z⟩, if_pos z]
      · rw [if_neg (by omega), if_neg z, c3 _ _ (by omega)]
    unfold TxR
    rw [f6, off _ _ (by omega) (by omega)]
    refine ⟨by rw [e1, up_e, if_pos ⟨rfl, rfl⟩, tt.1], by omega, fun i i1 i2 => ?_⟩
    rw [f5, off _ _ (by omega) (by omega), e1, up_a _ _ _ _ (by omega), up_e, tt.1]
    by_cases z : i = mu r 6
    · rw [if_pos ⟨rfl, z⟩, if_pos z]; exact ⟨rfl, hx.1⟩
    · rw [if_neg (by omega), if_neg z]; exact tt.2.2 i i1 (by omega)
theorem O_clear (O : Od c h t p b q r) (A : Inv N mu c h t p b r) {mu1 : Mem} (e1 : mu1 = up mu t 2 0) :
    mu t 2 = mu1 r 6 ∧ Inv N (up (up mu1 r 6 0) r 7 0) c h t p b r ∧ up (up mu1 r 6 0) r 7 0 r 7 = 0 := by
  have O' := O
  obtain ⟨o1, o2, o3, o4, o5, o6⟩ := O'
  have tt := A.1.tt
  unfold TxR at tt
  have c3 : ∀ (y : Nat) (i : Int), r ≤ y → mu1 y i = mu y i := fun y i hy => by rw [e1, up_a _ _ _ _ (by omega)]
  have R1 : R32 mu1 := by rw [e1]; exact R32_up A.2 _ _ (by omega)
  refine ⟨by rw [c3 _ _ (by omega), tt.1], ?_, by rw [up_e, if_pos ⟨rfl, rfl⟩]⟩
  have off : ∀ (y : Nat) (i : Int), ¬ (y = r ∧ (i = 6 ∨ i = 7)) → up (up mu1 r 6 0) r 7 0 y i = mu1 y i := fun y i h2 => by
    rw [up_e, if_neg (by omega), up_e, if_neg (by omega)]
  refine A.text O (R32_up (R32_up R1 _ _ (by omega)) _ _ (by omega)) (fun y i h1 h2 h3 => ?_) (fun y i hy => ?_) ?_ ?_
  · rw [off _ _ (by omega), e1, up_e, if_neg (by omega)]
  · rw [off _ _ (by omega), c3 _ _ (by omega)]
  · rw [off _ _ (by omega), c3 _ _ (by omega)]
  · unfold TxR
    rw [show up (up mu1 r 6 0) r 7 0 r 6 = 0 by rw [up_e, if_neg (by omega), up_e, if_pos ⟨rfl, rfl⟩], off _ _ (by omega)]
    exact ⟨by rw [e1, up_e, if_pos ⟨rfl, rfl⟩], by omega, fun i i1 i2 => by omega⟩
/-- floating -/
theorem fvG_no {T : Mem} {k : Int} : ∀ m : Nat, (∀ o : Int, 0 ≤ o → o < m → ¬ (T 0 o = 4 ∧ T 2 o = k)) → fvG T k m = -1
  | 0, _ => rfl
  | m + 1, h => by
    unfold fvG
    rw [if_neg (h m (by omega) (by omega))]
    exact fvG_no m fun o h1 h2 => h o h1 (by omega)
theorem fvG_hit {T : Mem} {k g : Int} (hg : T 0 g = 4 ∧ T 2 g = k) : ∀ m : Nat, (0 ≤ g ∧ g < m) → (∀ o : Int, 0 ≤ o → o < m → (T 0 o = 4 ∧ T 2 o = k) → o = g) → fvG T k m = T 4 g
  | 0, h, _ => by omega
  | m + 1, h, hu => by
    unfold fvG
    by_cases z : T 0 m = 4 ∧ T 2 m = k
    · rw [if_pos z, hu m (by omega) (by omega) z]
    · rw [if_neg z]
      have : g ≠ m := fun e => z (by rw [← e]; exact hg)
      exact fvG_hit hg m (by omega) fun o h1 h2 h3 => hu o h1 (by omega) h3
theorem ix_f (i : Int) : (if ixF9 i = 1 then 2 else ixF9 i) = fiF i := by unfold ixF9 fiF; (repeat' split) <;> omega
theorem O_floating (A : Inv N mu c h t p b r) {i : Int} (hf : fiF i = 0) : gL (lay mu (c + 2)) 4 (mbrF (lay mu (c + 2)) 48 i - 16) = fvG (trT mu r) i 32 := by
  obtain ⟨e, P, Lr⟩ := A.base
  have hi : 0 ≤ i := by unfold fiF at hf; split at hf <;> omega
  obtain ⟨u, R⟩ := Lr.rl
  have W := R.wf
  have n48 := W.mb.nng 48 (by omega) (by omega)
  have key : ∀ g : Int, Us (lay mu (c + 2)) (-1) g → (trT mu r 0 (u g) = 4 ↔ lay mu (c + 2) 0 g = 48) := by
    intro g hg
    have kg := R.knd g hg
    have gb := hg.1
    have a1 := W.spl g
    have a2 := W.axs g
    rw [kg]
    unfold kindL
    by_cases y : g < 32
    · rw [if_pos y, if_neg (by omega)]
      by_cases z : lay mu (c + 2) 0 g = 48
      · rw [if_pos z]; exact ⟨fun _ => z, fun _ => rfl⟩
      · rw [if_neg z]; exact ⟨fun e => absurd e (by omega), fun e => absurd e z⟩
    · rw [if_neg y]
      have := hg.2
      first | with_reducible refine Look.mk ?_ ?_ ?_ ?_ ?_ ?_ ?_ ?_ ?_ ?_ ?_ ?_ ?_ | with_reducible refine CR.mk ?_ ?_ ?_ ?_ ?_ ?_ | with_reducible refine Hy.mk ?_ ?_ ?_ | with_reducible refine RS.mk ?_ ?_ ?_ ?_ ?_ ?_ ?_ ?_ | with_reducible refine LR.mk ?_ ?_ ?_ ?_ ?_ | with_reducible refine BxI.mk ?_ ?_ ?_ ?_ ?_ ?_ | with_reducible refine WkI.mk ?_ ?_ ?_ ?_ ?_ ?_ | with_reducible refine PlE.mk ?_ ?_ ?_ ?_ ?_ | with_reducible refine Pl0.mk ?_ ?_ ?_ ?_ | with_reducible refine Tp.mk ?_ ?_ | with_reducible refine Vl.mk ?_ ?_ | with_reducible refine Lk.mk ?_ | with_reducible refine RfQ.mk ?_ ?_ ?_ ?_ | with_reducible refine ShQ.mk ?_ ?_ ?_ ?_ | with_reducible refine Que.mk ?_ ?_ ?_ ?_ ?_ ?_ ?_ ?_ | with_reducible refine QuI.mk ?_ ?_ ?_ ?_ ?_ ?_ | with_reducible refine Ord.mk ?_ ?_ ?_ ?_ ?_ ?_ ?_ ?_ ?_ ?_ | with_reducible refine LnI.mk ?_ ?_ ?_ ?_ ?_ ?_ ?_ ?_ ?_ ?_ ?_ ?_ ?_ ?_ ?_ ?_ ?_ | with_reducible refine Rl.mk ?_ ?_ ?_ ?_ ?_ ?_ ?_ ?_ ?_ ?_ ?_ ?_ ?_ | with_reducible refine Wf.mk ?_ ?_ ?_ ?_ ?_ ?_ ?_ ?_ ?_ ?_ ?_ | with_reducible refine Mb.mk ?_ ?_ ?_ ?_ ?_ | constructor
      · intro e; omega
      · intro e; omega
  have one : ∀ o : Int, 0 ≤ o → o < 32 → (trT mu r 0 o = 4 ∧ trT mu r 2 o = i) → ∃ g : Int, (Us (lay mu (c + 2)) (-1) g ∧ u g = o) ∧ lay mu (c + 2) 0 g = 48 ∧ lay mu (c + 2) 1 g = i := fun o h1 h2 h3 => by
    obtain ⟨g, g1, rfl⟩ := R.sur o h1 h2 (by omega)
    have ps := R.pos g g1 (by have := g1.1; omega)
    exact ⟨g, ⟨g1, rfl⟩, (key g g1).mp h3.1, by rw [← ps]; exact h3.2⟩
  by_cases z : i < lay mu (c + 2) 2 48
  · obtain ⟨m1, m2, m3⟩ := mbrF_get W.mb (h := 48) (i := i) (by omega) ⟨hi, z⟩
    have ug := W.usd (t := mbrF (lay mu (c + 2)) 48 i) m1 (by omega)
    have g32 : mbrF (lay mu (c + 2)) 48 i < 32 := by
      have := W.spl (mbrF (lay mu (c + 2)) 48 i)
      have := ug.1
      omega
    have rg := R.rng _ ug
    have ps := R.pos _ ug (by have := ug.1; omega)
    have gb := ug.1
    rw [fvG_hit (T := trT mu r) (k := i) (g := u (mbrF (lay mu (c + 2)) 48 i)) ⟨(key _ ug).mpr m2, by rw [ps, m3]⟩ 32 (by omega) (fun o h1 h2 h3 => by
      obtain ⟨g, ⟨g1, g2⟩, g3, g4⟩ := one o h1 (by omega) h3
      have gb2 := g1.1
      rw [← g2, W.mb.inj g (mbrF (lay mu (c + 2)) 48 i) (by omega) (by omega) (by omega) (by omega) (by omega) (by omega) (by omega)]), R.act _ ug g32, gL4 (by omega)]
  · rw [mbrF_out W.mb (by omega) (Or.inr (by omega)), fvG_no 32 fun o h1 h2 h3 => by
      obtain ⟨g, ⟨g1, g2⟩, g3, g4⟩ := one o h1 (by omega) h3
      have gb := g1.1
      have := W.mb.rng g (by omega) (by omega) (by omega)
      rw [g3] at this
      omega]
    unfold gL gK
    rw [wr_id (by omega)]
    exact if_neg (by omega)
end Q2
