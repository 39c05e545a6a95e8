/-! THE CHECKSUM on both sides -/
theorem mxG_c {F F' : Int → Int} : ∀ (d : Nat) (i : Int) (h : Int64), (∀ k : Int, i ≤ k → k < i + d → F k = F' k) → mxG F d i h = mxG F' d i h
  | 0, i, h, _ => rfl
  | d + 1, i, h, e => by
    rw [mxG, mxG, e i (by omega) (by omega), mxG_c d (i + 1) _ (fun k h1 h2 => e k (by omega) (by omega))]
section DG
variable {N : Int} {mu m : Mem} {c h t p b q r : Nat}
theorem Look.dep {u : Int → Int} {rk : Int → Nat} {wn : Int → Int} (K : Look mu c p r u rk wn) : ∀ (v : Nat) (y : Int), InT (lay mu (c + 2)) y →
    ((v : Int) < pl mu p 7 y → upT (trT mu r) v (u y) ≠ -1 ∧ trT mu r 1 (upT (trT mu r) v (u y)) ≠ -1) ∧ (pl mu p 7 y ≤ v → upT (trT mu r) v (u y) = -1 ∨ trT mu r 1 (upT (trT mu r) v (u y)) = -1) := by
  have W := K.rl.wf
  have roo : ∀ y : Int, InT (lay mu (c + 2)) y → lay mu (c + 2) 0 y = 47 → pl mu p 7 y = 0 ∧ trT mu r 1 (u y) = -1 := fun y hy e => by
    have pa := K.rl.par y hy.1
    rw [if_neg (by omega)] at pa
    exact ⟨(K.pln.p0.tp.roo y hy e).2.2.2.2, pa⟩
  have inn : ∀ y : Int, InT (lay mu (c + 2)) y → isZ (lay mu (c + 2) 0 y) → InT (lay mu (c + 2)) (lay mu (c + 2) 0 y) ∧ pl mu p 7 y = pl mu p 7 (lay mu (c + 2) 0 y) + 1 ∧ trT mu r 1 (u y) = u (lay mu (c + 2) 0 y) ∧ 0 ≤ pl mu p 7 (lay mu (c + 2) 0 y) := fun y hy s => by
    have b := hy.rg
    have hs := hy.par W s
    have pa := K.rl.par y hy.1
    have z1 := s.1
    have z2 := s.2
    rw [if_pos ⟨z1, z2⟩] at pa
    have rg := W.mb.rng y (by omega) (by omega) (by omega)
    have hit := mbrF_hit W.mb (h := lay mu (c + 2) 0 y) (t := y) ⟨by omega, by omega⟩ rfl (by omega)
    have be := (K.pln.be _ hs s).1 (lay mu (c + 2) 1 y) rg.1 rg.2
    rw [hit] at be
    exact ⟨hs, be.2.2.2.2, pa, (K.pln.bx _ hs).2.1⟩
  intro v
  induction v with
  | zero =>
    intro y hy
    have ug := K.rl.rng y hy.1
    show (((0 : Nat) : Int) < pl mu p 7 y → u y ≠ -1 ∧ trT mu r 1 (u y) ≠ -1) ∧ (pl mu p 7 y ≤ ((0 : Nat) : Int) → u y = -1 ∨ trT mu r 1 (u y) = -1)
    rcases hy.hol W with e | s
    · have ro := roo y hy e
      exact ⟨fun h => by omega, fun _ => Or.inr ro.2⟩
    · obtain ⟨i1, i2, i3, i4⟩ := inn y hy s
      have us := K.rl.rng _ i1.1
      refine ⟨fun _ => ⟨by omega, by rw [i3]; omega⟩, fun h => by omega⟩
  | succ v ih =>
    intro y hy
    have ug := K.rl.rng y hy.1
    unfold upT
    rw [if_neg (show ¬ u y = -1 by omega)]
    rcases hy.hol W with e | s
    · have ro := roo y hy e
      rw [ro.1, ro.2, upT_neg]
      exact ⟨fun h => by omega, fun _ => Or.inl rfl⟩
    · obtain ⟨i1, i2, i3, i4⟩ := inn y hy s
      rw [i3]
      have ih := ih _ i1
      exact ⟨fun h => ih.1 (by omega), fun h => ih.2 (by omega)⟩
/-- how many splits stand above a pane -/
theorem O_dep (A : Inv N mu c h t p b r) {x : Int} (hx : 0 ≤ x ∧ x < 16) : (0 ≤ dpF mu c p x ∧ dpF mu c p x ≤ 17) ∧ (∀ v : Int, 0 ≤ v → v < dpF mu c p x → saF (trT mu r) x v 0 ≠ -1) ∧ (∀ v : Int, 0 ≤ v → dpF mu c p x ≤ v → saF (trT mu r) x v 0 = -1) := by
  obtain ⟨u, rk, wn, K⟩ := A.look
  have R := K.rl
  have W := R.wf
  have pr := W.pan x hx.1 hx.2
  have pa := R.pan x hx.1 hx.2
  have st := A.sx hx
  have gx := gL0 (L := lay mu (c + 2)) (i := x) (by omega)
  unfold dpF
  by_cases z : lay mu (c + 2) 0 x = -1
  · have s0 : sttF (lay mu (c + 2)) x = 0 := by unfold sttF; rw [aL_0 (by omega), if_pos z]
    rw [if_pos s0]
    exact ⟨by omega, fun v h1 h2 => by omega, fun v h1 h2 => by unfold saF; rw [st, s0, if_neg (by omega)]⟩
  · rw [if_neg z] at pa
    have us := R.pus (p := x) hx z
    have s0 : sttF (lay mu (c + 2)) x = if lay mu (c + 2) 0 (lay mu (c + 2) 0 x) = 48 then 2 else 1 := by
      unfold sttF; rw [aL_0 (i := x) (by omega), if_neg z, aL_0 (by omega)]
    have sn : sttF (lay mu (c + 2)) x ≠ 0 := by rw [s0]; split <;> omega
    rw [if_neg sn, gx, gKr (by omega) (by omega)]
    by_cases f : lay mu (c + 2) 0 (lay mu (c + 2) 0 x) = 48
    · have t0 := K.pln.p0.tp.flo _ 0 (by omega) (by omega) f (Or.inl rfl)
      rw [if_pos f] at s0
      rw [t0.2.2]
      exact ⟨by omega, fun v h1 h2 => by omega, fun v h1 h2 => by unfold saF; rw [st, s0, if_neg (by omega)]⟩
    · rw [if_neg f] at s0
      have hy : InT (lay mu (c + 2)) (lay mu (c + 2) 0 x) := ⟨us, f⟩
      have bx := (K.pln.bx _ hy).2
      have sa : ∀ v : Int, saF (trT mu r) x v 0 = if upT (trT mu r) v.toNat (u (lay mu (c + 2) 0 x)) = -1 then upT (trT mu r) v.toNat (u (lay mu (c + 2) 0 x)) else trT mu r 1 (upT (trT mu r) v.toNat (u (lay mu (c + 2) 0 x))) := fun v => by
        unfold saF
        rw [st, s0, if_pos rfl, pa]
        by_cases y : upT (trT mu r) v.toNat (u (lay mu (c + 2) 0 x)) = -1
        · rw [if_pos (Or.inr y), if_pos y]
        · rw [if_neg (fun w => w.elim (by decide) y), if_neg y]
      refine ⟨by omega, fun v h1 h2 => ?_, fun v h1 h2 => ?_⟩
      · have d := (K.dep v.toNat _ hy).1 (by omega)
        rw [sa, if_neg d.1]; exact d.2
      · have d := (K.dep v.toNat _ hy).2 (by omega)
        rw [sa]
        by_cases y : upT (trT mu r) v.toNat (u (lay mu (c + 2) 0 x)) = -1
        · rw [if_pos y]; exact y
        · rw [if_neg y]
          exact d.resolve_left y
theorem msL_e (e1 : lay m (c + 2) = lay mu (c + 2)) (e2 : pl m p = pl mu p) (A : Inv N mu c h t p b r) {x : Int} (hx : 0 ≤ x ∧ x < mu c 2) : ∀ (d e : Nat) (v : Int) (H : Int64), 0 ≤ v → v + d = dpF mu c p x → d < e → msL m c p x d v H = mxL (trT mu r) (zW mu r) x e v H
  | 0, 0, v, H, h1, h2, h3 => by omega
  | 0, e + 1, v, H, h1, h2, h3 => by
    have D := O_dep A (x := x) (by have := A.base.2.1; omega)
    rw [msL, mxL, if_pos (D.2.2 v h1 (by omega))]
  | d + 1, 0, v, H, h1, h2, h3 => by omega
  | d + 1, e + 1, v, H, h1, h2, h3 => by
    have D := O_dep A (x := x) (by have := A.base.2.1; omega)
    have g : mxG (fun w => spvF (lay m (c + 2)) (pl m p) x v w) 8 0 H = mxG (fun w => stF (trT mu r) (zW mu r) x v w) 8 0 H := mxG_c 8 0 H fun k h5 h6 => by
      show spvF (lay m (c + 2)) (pl m p) x v k = _
      rw [e1, e2]
      refine (O_split A (x := x) (v := v) (w := k) ?_).1
      unfold fspF fsF
      rw [if_pos (pn1.mpr hx), if_pos ⟨h1, by omega, by omega⟩]
    rw [msL, mxL, if_neg (D.2.1 v h1 (by omega)), msL_e e1 e2 A hx d e (v + 1) _ (by omega) (by omega) (by omega), g]
theorem mxP_e (e1 : lay m (c + 2) = lay mu (c + 2)) (epa : ∀ x w : Int, paF m c p x w = paF mu c p x w) (A : Inv N mu c h t p b r) {x : Int} (hx : 0 ≤ x ∧ x < mu c 2) (H : Int64) : mxP m c p x H = mxQ mu r (trT mu r) (zW mu r) x H := by
  have hp : pnF mu c x = 1 := pn1.mpr hx
  have t0 := O_tab A (x := x) (i := 0) (by unfold ftbF; rw [if_pos hp]; rfl)
  have t1 := O_tab A (x := x) (i := 1) (by unfold ftbF; rw [if_pos hp]; rfl)
  have g : mxG (fun w => paF m c p x w) 12 0 H = mxG (fun w => pvF mu r (trT mu r) (zW mu r) x w) 12 0 H := mxG_c 12 0 H fun k h5 h6 => by
    show paF m c p x k = _
    rw [epa]
    refine (O_pane A (x := x) (w := k) ?_).2.1
    unfold ppF frF
    rw [if_pos hp, if_pos ⟨by omega, by omega⟩]
  unfold mxP mxQ
  rw [e1, t0, t1, g]
theorem mpG_e (e1 : lay m (c + 2) = lay mu (c + 2)) (epa : ∀ x w : Int, paF m c p x w = paF mu c p x w) (A : Inv N mu c h t p b r) : ∀ (d : Nat) (x : Int) (H : Int64), 0 ≤ x → x + d ≤ mu c 2 → mpG m c p d x H = mxA mu r (trT mu r) (zW mu r) d x H
  | 0, x, H, h1, h2 => rfl
  | d + 1, x, H, h1, h2 => by rw [mpG, mxA, mxP_e e1 epa A ⟨h1, by omega⟩, mpG_e e1 epa A d (x + 1) _ (by omega) (by omega)]
theorem mzG_e (e1 : lay m (c + 2) = lay mu (c + 2)) (e2 : pl m p = pl mu p) (edp : ∀ x : Int, dpF m c p x = dpF mu c p x) (A : Inv N mu c h t p b r) : ∀ (d : Nat) (x : Int) (H : Int64), 0 ≤ x → x + d ≤ mu c 2 → mzG m c p d x H = mxB (trT mu r) (zW mu r) d x H
  | 0, x, H, h1, h2 => rfl
  | d + 1, x, H, h1, h2 => by
    have P := A.base.2.1
    have D := O_dep A (x := x) (by omega)
    rw [mzG, mxB, edp, msL_e e1 e2 A (x := x) ⟨h1, by omega⟩ _ 40 0 H (by omega) (by omega) (by omega), mzG_e e1 e2 edp A d (x + 1) _ (by omega) (by omega)]
theorem O_digest (A : Inv N mu c h t p b r) (e : ∀ (x : Nat) (i : Int), x < r → m x i = mu x i) (O : Od c h t p b q r) : diF m c h t p = diR mu r (trT mu r) (qW mu r) (zW mu r) ∧ LyOk mu r (trT mu r) (zOf mu r) (mu (r + 1) 0) (mu (r + 1) 1) ∧ okG (trT mu r) ∧
    (∀ x : Int, 0 ≤ x ∧ x < 16 → trT mu r 9 x ≠ -1 → abE (trT mu r) 40 (trT mu r 1 (trT mu r 9 x))) ∧ (∀ x : Int, 0 ≤ x ∧ x < 16 → saF (trT mu r) x 39 0 = -1) := by
  obtain ⟨o1, o2, o3, o4, o5, o6⟩ := O
  obtain ⟨eb, P, Lr⟩ := A.base
  have eL : lay m (c + 2) = lay mu (c + 2) := by
    funext k i
    show (if _ then _ else _) = (if _ then _ else _)
    by_cases z : k ≤ 7
    · rw [if_pos z, if_pos z]; exact e _ _ (by omega)
    · rw [if_neg z, if_neg z]
  have ep : pl m p = pl mu p := by
    funext k i
    show (if _ then _ else _) = (if _ then _ else _)
    by_cases z : k < 14
    · rw [if_pos z, if_pos z]; exact e _ _ (by omega)
    · rw [if_neg z, if_neg z]
  have ec : m c = mu c := funext fun i => e _ _ (by omega)
  have epp : m p = mu p := funext fun i => e _ _ (by omega)
  have e1 : ∀ i : Int, gK m (c + 1) 32 i = gK mu (c + 1) 32 i := fun i => by
    unfold gK atF
    rw [show m (c + 1) = mu (c + 1) from funext fun i => e _ _ (by omega)]
  have ewh : ∀ k : Int, whF m c p k = whF mu c p k := fun k => by
    unfold whF
    rw [eL, ep, ec, epp]
  have epa : ∀ x w : Int, paF m c p x w = paF mu c p x w := fun x w => by
    unfold paF
    rw [eL, ep, e1, e1]
  have edp : ∀ x : Int, dpF m c p x = dpF mu c p x := fun x => by
    unfold dpF
    rw [eL, ep]
  have ehk : ∀ i : Int, hkF m c i = hkF mu c i := fun i => by
    unfold hkF gK atF
    rw [show m (c + 12) = mu (c + 12) from funext fun i => e _ _ (by omega)]
  have n4 := A.1.hy.cnt
  have tt := A.1.tt
  unfold TxR at tt
  have g0 : fiF 0 = 0 := by decide
  have ok := (O_whole A (w := 0) (by decide)).2
  have w5 := (O_whole A (w := 5) (by decide)).1
  have w7 := (O_whole A (w := 7) (by decide)).1
  rw [(wh_v mu c p).2.2.2.2.2.1, (wv_v mu r _ _ _).2.2.2.2.2.1] at w5
  rw [(wh_v mu c p).2.2.2.2.2.2.2.1, (wv_v mu r _ _ _).2.2.2.2.2.2.2.1] at w7
  refine ⟨?_, ok, (O_group A g0).2, fun x hx hn => ?_, fun x hx => ?_⟩
  · have pan := fun (d : Nat) (x : Int) (H : Int64) h1 h2 => mpG_e (m := m) eL epa A d x H h1 h2
    have spl := fun (d : Nat) (x : Int) (H : Int64) h1 h2 => mzG_e (m := m) eL ep edp A d x H h1 h2
    unfold diF diR
    rw [ec, epp, e h 1 (by omega), e t 2 (by omega), eL, ep, n4.1, tt.1, eb, w5, w7]
    rw [mxG_c (F := fun k => whF m c p k) (F' := fun k => wvF mu r (trT mu r) (qW mu r) (zW mu r) k) 12 0 _ (fun k h5 h6 => by
      show whF m c p k = _
      rw [ewh]
      refine (O_whole A ?_).1
      unfold frF
      rw [if_pos ⟨by omega, by omega⟩])]
    rw [pan _ 0 _ (by omega) (by omega), spl _ 0 _ (by omega) (by omega)]
    rw [mxG_c (F := fun k => gL (lay mu (c + 2)) 4 (tnF (pl mu p) k - 16)) (F' := fun k => gvT (trT mu r) k) (ctT (trT mu r) 1).toNat 0 _ (fun k h5 h6 => (O_group A (i := k) (by unfold fiF; rw [if_pos h5])).1)]
    rw [mxG_c (F := fun k => gL (lay mu (c + 2)) 4 (mbrF (lay mu (c + 2)) 48 k - 16)) (F' := fun k => fvG (trT mu r) k 32) (ctT (trT mu r) 4).toNat 0 _ (fun k h5 h6 => O_floating A (i := k) (by unfold fiF; rw [if_pos h5]))]
    refine mxG_c _ _ _ fun k h5 h6 => ?_
    show hkF m c k = _
    have hk := hk_e A.1.st (j := k.toNat) (by omega)
    rw [show ((k.toNat : Nat) : Int) = k by omega] at hk
    rw [ehk]; exact hk.1
  · obtain ⟨u, rk, wn, K⟩ := A.look
    by_cases z : x < mu c 2
    · have g := O_pane A (x := x) (w := 2) (by unfold ppF frF; rw [if_pos (pn1.mpr ⟨hx.1, z⟩), if_pos ⟨by omega, by omega⟩])
      exact g.1 hn
    · have cl := K.cl x (by omega) hx.2
      have pa := K.rl.pan x hx.1 hx.2
      rw [if_pos cl] at pa
      exact absurd pa hn
  · have D := O_dep A hx
    exact D.2.2 39 (by omega) (by omega)
/-- the reference's memory behind a checksum -/
theorem O_dig (O : Od c h t p b q r) (A : Inv N mu c h t p b r) (hN : 0 ≤ N ∧ N ≤ 10000000) : diF mu c h t p = diR (mu0 mu r) r (trT (mu0 mu r) r) (qW (mu0 mu r) r) (zW (mu0 mu r) r) ∧ LyOk (mu0 mu r) r (trT (mu0 mu r) r) (zOf (mu0 mu r) r) (mu (r + 1) 0) (mu (r + 1) 1) ∧ okG (trT (mu0 mu r) r) ∧
    (∀ x : Int, 0 ≤ x ∧ x < 16 → trT (mu0 mu r) r 9 x ≠ -1 → abE (trT (mu0 mu r) r) 40 (trT (mu0 mu r) r 1 (trT (mu0 mu r) r 9 x))) ∧ (∀ x : Int, 0 ≤ x ∧ x < 16 → saF (trT (mu0 mu r) r) x 39 0 = -1) ∧ Inv N (lyW (mu0 mu r) r) c h t p b r ∧ (0 ≤ mu p 10 ∧ mu p 10 ≤ mu p 9) := by
  have A0 : Inv N (mu0 mu r) c h t p b r := (A.up7 O (k := 0) (by omega)).1
  obtain ⟨g1, g2, g3, g4, g5⟩ := O_digest A0 (m := mu) (fun x i hx => (up_a _ _ _ _ (by omega)).symm) O
  have er : ∀ i : Int, mu0 mu r (r + 1) i = mu (r + 1) i := fun i => up_a _ _ _ _ (by omega)
  rw [er, er] at g2
  have gl := g2
  rw [← er 0, ← er 1] at gl
  have I := A0.lay O hN gl (k := 0) (by omega)
  have cS := (O_whole A0 (w := 6) (by decide)).1
  have c5 := (O_whole A0 (w := 5) (by decide)).1
  rw [(wh_v (mu0 mu r) c p).2.2.2.2.2.2.1, (wv_v (mu0 mu r) r _ _ _).2.2.2.2.2.2.1] at cS
  rw [(wh_v (mu0 mu r) c p).2.2.2.2.2.1, (wv_v (mu0 mu r) r _ _ _).2.2.2.2.2.1] at c5
  have b1 := ctT_b (trT (mu0 mu r) r) 1
  have b2 := ctT_b (trT (mu0 mu r) r) 2
  have b3 := ctT_b (trT (mu0 mu r) r) 3
  have ep9 : mu0 mu r p 9 = mu p 9 := up_a _ _ _ _ (by unfold Od at O; omega)
  have ep10 : mu0 mu r p 10 = mu p 10 := up_a _ _ _ _ (by unfold Od at O; omega)
  have l7 : lyW (mu0 mu r) r = up (lyW (mu0 mu r) r) r 7 0 := by
    funext x i
    rw [up_e]
    by_cases z : x = r ∧ i = 7
    · rw [if_pos z, z.1, z.2]
      show ptT (zM (mu0 mu r) r (qW (mu0 mu r) r) (zW (mu0 mu r) r)) r (trT (mu0 mu r) r) r 7 = 0
      rw [ptT_x _ _ _ (by omega)]
      unfold zM mu0
      rw [if_neg (by omega), if_neg (by omega), up_e, if_pos ⟨rfl, rfl⟩]
    · rw [if_neg z]
  refine ⟨g1, g2, g3, g4, g5, ?_, by omega, by omega⟩
  rw [l7]; exact I.1
end DG
