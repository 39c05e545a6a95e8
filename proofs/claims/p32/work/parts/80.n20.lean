/-! THE LAW'S ROWS AND THE CLASS TELL THE SAME: a pane -/
def Al (mu : Mem) (w c p : Nat) : Prop :=
  (Lr mu w (lay mu (c + 2)) (mu c 2) (-1)) ∧
  (Ly (lay mu (c + 2)) (mu c 2)) ∧
  (mu w 0 = mu c 0 ∧ mu w 1 = mu c 1) ∧
  (∀ k : Int, 0 ≤ k → k < mu c 2 → mu (w + 2) (4 * k) = mu (c + 1) (2 * k) ∧ mu (w + 2) (4 * k + 1) = mu (c + 1) (2 * k + 1)) ∧
  (∃ rk : Int → Nat, RK (lay mu (c + 2)) rk ∧ PlE (lay mu (c + 2)) (mu (c + 1)) (mu c 0) (mu c 1) rk (pl mu p))
theorem Al.lr {mu : Mem} {w c p : Nat} (h9 : Al mu w c p) : Lr mu w (lay mu (c + 2)) (mu c 2) (-1) := h9.1
theorem Al.ly {mu : Mem} {w c p : Nat} (h9 : Al mu w c p) : Ly (lay mu (c + 2)) (mu c 2) := h9.2.1
theorem Al.hd {mu : Mem} {w c p : Nat} (h9 : Al mu w c p) : mu w 0 = mu c 0 ∧ mu w 1 = mu c 1 := h9.2.2.1
theorem Al.ls {mu : Mem} {w c p : Nat} (h9 : Al mu w c p) : ∀ k : Int, 0 ≤ k → k < mu c 2 → mu (w + 2) (4 * k) = mu (c + 1) (2 * k) ∧ mu (w + 2) (4 * k + 1) = mu (c + 1) (2 * k + 1) := h9.2.2.2.1
theorem Al.pl9 {mu : Mem} {w c p : Nat} (h9 : Al mu w c p) : ∃ rk : Int → Nat, RK (lay mu (c + 2)) rk ∧ PlE (lay mu (c + 2)) (mu (c + 1)) (mu c 0) (mu c 1) rk (pl mu p) := h9.2.2.2.2
theorem Al.mk {mu : Mem} {w c p : Nat} (h_lr : Lr mu w (lay mu (c + 2)) (mu c 2) (-1)) (h_ly : Ly (lay mu (c + 2)) (mu c 2)) (h_hd : mu w 0 = mu c 0 ∧ mu w 1 = mu c 1) (h_ls : ∀ k : Int, 0 ≤ k → k < mu c 2 → mu (w + 2) (4 * k) = mu (c + 1) (2 * k) ∧ mu (w + 2) (4 * k + 1) = mu (c + 1) (2 * k + 1)) (h_pl9 : ∃ rk : Int → Nat, RK (lay mu (c + 2)) rk ∧ PlE (lay mu (c + 2)) (mu (c + 1)) (mu c 0) (mu c 1) rk (pl mu p)) : Al mu w c p := ⟨h_lr, h_ly, h_hd, h_ls, h_pl9⟩
theorem Lr.stt9 {mu : Mem} {w : Nat} {L : Mem} {P a : Int} (A : Lr mu w L P (-1)) (H : Ly L P) (ha : 0 ≤ a ∧ a < P) :
    sttF L a = jX mu w a ∧ (L 0 a ≠ -1 → (16 ≤ L 0 a ∧ L 0 a < 21) ∧ ((L 0 (L 0 a) = 48 ∧ jS mu w (L 0 a - 16) = -1) ∨ Tn L (L 0 a))) := by
  obtain ⟨o, c, S⟩ := A.sg
  have ap := A.grp a ha.1 ha.2
  have p5 := H.p5
  have pr := H.wf.pan a ha.1 (by omega)
  have lw := A.low a ha.1 ha.2
  have ow := H.wf.own a ha.1 (by omega)
  unfold sttF jX
  rw [ap, aL_0 (i := a) ⟨by omega, by omega⟩]
  by_cases z : L 0 a = -1
  · rw [if_pos z, if_pos z, if_pos (by omega)]
    exact ⟨rfl, fun q => absurd z q⟩
  · rw [if_neg z, if_neg z, if_neg (show ¬ L 0 a - 16 < 0 by omega), aL_0 (i := L 0 a) ⟨by omega, by omega⟩]
    have ow := ow z (by omega)
    by_cases y : L 0 (L 0 a) = 48
    · have j := S.sgnN (gr := L 0 a - 16) (fun x hx x32 e => hx.2.2 (by rw [show x = L 0 a by omega]; exact y))
      rw [if_pos y, j, if_pos (by omega)]
      exact ⟨rfl, fun _ => ⟨⟨by omega, by omega⟩, Or.inl ⟨y, rfl⟩⟩⟩
    · have t : Tn L (L 0 a) := ⟨⟨by omega, by omega⟩, by omega, y⟩
      have j := S.sgn t (by omega)
      have r := S.rng _ t
      rw [if_neg y, j, if_neg (by omega)]
      exact ⟨rfl, fun _ => ⟨⟨by omega, by omega⟩, Or.inr t⟩⟩
theorem paF_o {mu : Mem} {c p : Nat} {x w : Int} (hs : sttF (lay mu (c + 2)) x ≠ 0) (hw : 3 ≤ w) : paF mu c p x w = vgF (lay mu (c + 2)) (pl mu p) x (gL (lay mu (c + 2)) 0 x) w := by
  unfold paF
  rw [if_neg (by omega), if_neg (by omega), if_neg (by omega), if_neg hs]
theorem paF_c {mu : Mem} {c p : Nat} {x w : Int} (hs : sttF (lay mu (c + 2)) x = 0) (hw : 3 ≤ w) : paF mu c p x w = -1 := by
  unfold paF
  rw [if_neg (by omega), if_neg (by omega), if_neg (by omega), if_pos hs]
theorem paF_012 (mu : Mem) (c p : Nat) (x : Int) : paF mu c p x 0 = gK mu (c + 1) 32 (2 * x + 0) ∧ paF mu c p x 1 = gK mu (c + 1) 32 (2 * x + 1) ∧ paF mu c p x 2 = sttF (lay mu (c + 2)) x := by simp [paF]
theorem gLn (L : Mem) (k : Nat) {i : Int} (h : -100 ≤ i ∧ i < 0) : gL L k i = -1 := by
  unfold gL gK atF
  rw [wr_id (by omega)]
  exact if_neg (by omega)
theorem spvF_an {L P : Mem} {a g : Int} {k : Nat} (h0 : gL L 0 a = g) (hg : 0 ≤ g ∧ g < 49) (h : ∀ j : Nat, j < k → isZ (L 0 (an L j g))) (y : Int) : spvF L P a k y = if spF (L 0 (an L k g)) = 1 then vsF L P (L 0 (an L k g)) (an L k g) y else -1 := by
  unfold spvF
  rw [h0, gL0 hg, show ((k : Int)).toNat = k by omega, upG_an k g h]
theorem Al.pane {mu : Mem} {w c p : Nat} (A : Al mu w c p) {a : Int} (ha : 0 ≤ a ∧ a < mu c 2) :
    (paF mu c p a 0 = mu (w + 2) (4 * a) ∧ paF mu c p a 1 = mu (w + 2) (4 * a + 1) ∧ paF mu c p a 2 = jX mu w a) ∧
    (jX mu w a = 0 → paF mu c p a 3 = -1 ∧ paF mu c p a 7 = -1 ∧ paF mu c p a 11 = -1 ∧ tabF (lay mu (c + 2)) a 0 = -1 ∧ spvF (lay mu (c + 2)) (pl mu p) a 0 0 = -1) ∧
    ∃ (d : Int) (x : Int → Int) (N : Int → Nat) (q : Int → Int → Int) (jj : Int → Int), jX mu w a ≠ 0 →
      (0 ≤ mu (w + 2) (4 * a + 2) ∧ mu (w + 2) (4 * a + 2) < 5) ∧ (0 ≤ d ∧ d ≤ 100) ∧ x 0 = jS mu w (mu (w + 2) (4 * a + 2)) ∧ ((jS mu w (mu (w + 2) (4 * a + 2)) < 0 ∧ d = 0) ∨ (0 ≤ jS mu w (mu (w + 2) (4 * a + 2)) ∧ UpP (mu (w + 1)) (x d) (-1))) ∧
      (∀ k : Int, 0 ≤ k → k < d → UpP (mu (w + 1)) (x k) (x (k + 1)) ∧ 0 ≤ x (k + 1) ∧ KidP (mu (w + 1)) (x (k + 1)) (N k) (q k) ∧ mu (w + 1) (3 * q k (N k)) = 4 ∧ N k ≤ 20 ∧ (0 ≤ jj k ∧ jj k < N k) ∧ q k (jj k) = x k ∧ (∀ y : Int, 0 ≤ y → y < jj k → q k y ≠ x k) ∧
        spvF (lay mu (c + 2)) (pl mu p) a k 0 = mu (w + 1) (3 * x (k + 1)) - 2 ∧ spvF (lay mu (c + 2)) (pl mu p) a k 1 = N k ∧ spvF (lay mu (c + 2)) (pl mu p) a k 2 = jj k) ∧
      (∀ k : Int, 0 ≤ k → k < mu w 2 → mu (w + 2) (4 * k + 2) = mu (w + 2) (4 * a + 2) → (0 ≤ mu (w + 2) (4 * k + 3) ∧ mu (w + 2) (4 * k + 3) ≤ 100) ∧ tabF (lay mu (c + 2)) a (mu (w + 2) (4 * k + 3)) = k) ∧
      paF mu c p a 7 = (if mu (w + 2) (20 + mu (w + 2) (4 * a + 2)) = a then 1 else 0) ∧ paF mu c p a 8 = mu (w + 2) (4 * a + 3) ∧ paF mu c p a 9 = jT mu w (mu (w + 2) (4 * a + 2)) ∧
      paF mu c p a 10 = (if 0 < d then mu (w + 1) (3 * jS mu w (mu (w + 2) (4 * a + 2)) + 1) else -1) ∧ paF mu c p a 11 = d ∧ spvF (lay mu (c + 2)) (pl mu p) a d 0 = -1 ∧ tabF (lay mu (c + 2)) a (jT mu w (mu (w + 2) (4 * a + 2))) = -1 := by
  obtain ⟨B, H, -, ls, ⟨rk, K, E⟩⟩ := A
  have m13 := B.m13 H
  obtain ⟨st, op⟩ := B.stt9 H ha
  obtain ⟨o, c', S⟩ := B.sg
  have p5 := H.p5
  have l0 := ls a ha.1 ha.2
  obtain ⟨a0, a1, a2⟩ := paF_012 mu c p a
  have ap := B.grp a ha.1 ha.2
  have np := B.np
  refine ⟨⟨?_, ?_, by rw [a2, st]⟩, fun h => ?_, ?_⟩
  · rw [a0, gK9 ⟨by omega, by omega⟩ (by omega), Int.add_zero]; exact l0.1.symm
  · rw [a1, gK9 ⟨by omega, by omega⟩ (by omega)]; exact l0.2.symm
  · have s0 : sttF (lay mu (c + 2)) a = 0 := by rw [st, h]
    have z : lay mu (c + 2) 0 a = -1 := by
      unfold sttF at s0
      rw [aL_0 (i := a) ⟨by omega, by omega⟩] at s0
      split at s0
      · assumption
      · split at s0 <;> omega
    have g0 : gL (lay mu (c + 2)) 0 a = -1 := by rw [gL0 ⟨by omega, by omega⟩, z]
    refine ⟨paF_c s0 (by omega), paF_c s0 (by omega), paF_c s0 (by omega), by unfold tabF; rw [if_pos g0], ?_⟩
    unfold spvF
    rw [g0, gLn _ _ ⟨by omega, by omega⟩]
    show (if spF (-1) = 1 then _ else (-1 : Int)) = -1
    exact if_neg (by decide)
  · by_cases h : jX mu w a = 0
    · exact ⟨0, fun _ => 0, fun _ => 0, fun _ _ => 0, fun _ => 0, fun q => absurd h q⟩
    have s0 : sttF (lay mu (c + 2)) a ≠ 0 := by rw [st]; exact h
    have z := stt0 ⟨by omega, by omega⟩ s0
    have g0 : gL (lay mu (c + 2)) 0 a = lay mu (c + 2) 0 a := gL0 ⟨by omega, by omega⟩
    have op := op z
    rw [if_neg z] at ap
    have pp := B.pla a ha.1 ha.2 z
    have pv : ∀ x : Int, 3 ≤ x → paF mu c p a x = vgF (lay mu (c + 2)) (pl mu p) a (lay mu (c + 2) 0 a) x := fun x hx => by rw [paF_o s0 hx, g0]
    have tv : ∀ x : Int, tabF (lay mu (c + 2)) a x = mbrF (lay mu (c + 2)) (lay mu (c + 2) 0 a) x := fun x => by unfold tabF; rw [g0, if_neg z]
    have ow := H.wf.own a ha.1 (by omega) z (by omega)
    have tb := B.tabs H.wf.mb (g := lay mu (c + 2) 0 a) ⟨by omega, by omega⟩ ⟨by omega, by omega⟩ (fun t h1 h2 h3 => H.pan9 ⟨by omega, by omega⟩ ⟨h1, h2⟩ h3)
    have c16 := H.wf.cnt16 H.fu (h := lay mu (c + 2) 0 a) ⟨by omega, by omega⟩
    have sv := fun (k : Nat) => spvF_an (L := lay mu (c + 2)) (P := pl mu p) (a := a) (k := k) g0 ⟨by omega, by omega⟩
    have ac := B.act (lay mu (c + 2) 0 a) (by omega) (by omega) (Or.inl (by omega))
    have gp := B.grp
    have pa := B.pla
    have T := H.wf.tw9
    have FF : ∀ x : Int, Tn (lay mu (c + 2)) x → 32 ≤ x → 1 ≤ lay mu (c + 2) 2 x := fun x hx _ => ((H.fu x hx.1.1 hx.1.2).2 hx.2.1).1
    have W := H.wf
    generalize lay mu (c + 2) = L at *
    rw [ap]
    have com : (∀ k : Int, 0 ≤ k → k < mu w 2 → mu (w + 2) (4 * k + 2) = L 0 a - 16 → (0 ≤ mu (w + 2) (4 * k + 3) ∧ mu (w + 2) (4 * k + 3) ≤ 100) ∧ tabF L a (mu (w + 2) (4 * k + 3)) = k) ∧
        paF mu c p a 7 = (if mu (w + 2) (20 + (L 0 a - 16)) = a then 1 else 0) ∧ paF mu c p a 8 = mu (w + 2) (4 * a + 3) ∧ paF mu c p a 9 = jT mu w (L 0 a - 16) ∧ tabF L a (jT mu w (L 0 a - 16)) = -1 := by
      refine ⟨fun k k1 k2 e => ?_, ?_, ?_, ?_, ?_⟩
      · have gk := gp k k1 (by omega)
        by_cases y : L 0 k = -1
        · rw [if_pos y] at gk; omega
        · rw [if_neg y] at gk
          have pk := pa k k1 (by omega) y
          have rg := W.mb.rng k k1 (by omega) y
          have e0 : L 0 k = L 0 a := by omega
          have hit := mbrF_hit W.mb (h := L 0 a) (t := k) ⟨by omega, by omega⟩ e0 z
          rw [e0] at rg
          rw [pk, tv]
          exact ⟨⟨by omega, by omega⟩, hit⟩
      · rw [pv 7 (by omega), vg_7, gL4 ⟨by omega, by omega⟩, ← ac, show 20 + (L 0 a - 16) = 4 + L 0 a by omega]
      · rw [pv 8 (by omega), vg_8, gL1 ⟨by omega, by omega⟩, pp]
      · rw [pv 9 (by omega), vg_9, gL2 ⟨by omega, by omega⟩, tb]
      · rw [tv, tb]
        exact mbrF_out W.mb (by omega) (Or.inr (Int.le_refl _))
    rcases op with ⟨op1, ⟨f48, js⟩ | tg⟩
    · have d0 := E.p0.tp.flo (L 0 a) 0 (by omega) (by omega) f48 (Or.inl rfl)
      refine ⟨0, fun _ => -1, fun _ => 0, fun _ _ => 0, fun _ => 0, fun _ => ⟨⟨by omega, by omega⟩, ⟨by omega, by omega⟩, js.symm, Or.inl ⟨by omega, rfl⟩, fun k k1 k2 => by omega, com.1, com.2.1, com.2.2.1, com.2.2.2.1, ?_, ?_, ?_, com.2.2.2.2⟩⟩
      · rw [pv 10 (by omega), vg_10, gL0 ⟨by omega, by omega⟩, f48, if_neg (show ¬ spF 48 = 1 by decide), if_neg (show ¬ (0 : Int) < 0 by decide)]
      · rw [pv 11 (by omega), vg_11, gK9 ⟨by omega, by omega⟩ (by omega)]
        exact d0.2.2
      · have := sv 0 (fun j hj => by omega) 0
        rw [show ((0 : Nat) : Int) = 0 from rfl] at this
        rw [this]
        show (if spF (L 0 (L 0 a)) = 1 then _ else (-1 : Int)) = -1
        rw [f48]
        exact if_neg (by decide)
    · have j := S.sgn tg (by omega)
      have r := S.rng _ tg
      obtain ⟨d, d1, d2, d3, d4, d5⟩ := E.an9 W K 16 (L 0 a) (by omega) (tnI.mpr tg)
      rw [j]
      refine ⟨d, fun k => o (an L k.toNat (L 0 a)), fun k => (L 2 (an L (k.toNat + 1) (L 0 a))).toNat, fun k => kpO L o c' (an L (k.toNat + 1) (L 0 a)), fun k => L 1 (an L k.toNat (L 0 a)), fun _ => ⟨⟨by omega, by omega⟩, ⟨by omega, by omega⟩, rfl, Or.inr ⟨r.1, ?_⟩, fun k k1 k2 => ?_, com.1, com.2.1, com.2.2.1, com.2.2.2.1, ?_, ?_, ?_, com.2.2.2.2⟩⟩
      · show UpP _ (o (an L ((d : Int)).toNat (L 0 a))) (-1)
        rw [show ((d : Int)).toNat = d by omega]
        exact S.upR (tnI.mp (d4 d (by omega))) d5
      · obtain ⟨n, rfl⟩ := nat_of k1
        dsimp only
        rw [show ((n : Int) + 1).toNat = n + 1 by omega, show ((n : Int)).toNat = n by omega]
        have tt := tnI.mp (d4 n (by omega))
        have zz := d3 n (by omega)
        have v0 := sv n (fun j hj => d3 j (by omega)) 0
        have v1 := sv n (fun j hj => d3 j (by omega)) 1
        have v2 := sv n (fun j hj => d3 j (by omega)) 2
        have s1 : spF (L 0 (an L n (L 0 a))) = 1 := if_pos zz
        rw [if_pos s1, vs_0] at v0
        rw [if_pos s1, vs_1] at v1
        rw [if_pos s1, vs_2] at v2
        rw [v0, v1, v2, an_s]
        clear v0 v1 v2
        generalize an L n (L 0 a) = t at *
        have z1 := zz.1
        have z2 := zz.2
        have hp := T.par t tt (by omega)
        have rp := S.rng _ hp
        obtain ⟨k1', k2', k3'⟩ := S.kidP T FF (by omega) hp z1
        have rg := W.mb.rng t (by have := tt.1; omega) (by have := tt.1; omega) tt.2.1
        have hit := mbrF_hit W.mb (h := L 0 t) (t := t) ⟨by have := tt.1; omega, by have := tt.1; omega⟩ rfl tt.2.1
        have n0 := W.mb.nng (L 0 t) (by omega) (by omega)
        have sp := S.spl _ hp z1
        have ax := S.axs (L 0 t) z1 z2
        have ko : ∀ y : Int, y < L 2 (L 0 t) → kpO L o c' (L 0 t) y = o (mbrF L (L 0 t) y) := fun y hy => by unfold kpO; rw [if_pos hy]
        refine ⟨S.upP T FF (by omega) tt (by omega), rp.1, k1', k2', by omega, ⟨rg.1, by omega⟩, ?_, fun y y1 y2 e => ?_, ?_, ?_, ?_⟩
        · rw [ko _ rg.2, hit]
        · rw [ko _ (by omega)] at e
          obtain ⟨m1, m2, m3⟩ := mbrF_get W.mb (h := L 0 t) (i := y) ⟨by omega, by omega⟩ ⟨y1, by omega⟩
          have tm := T.mem _ m1.1 m1.2 (by rw [m2]; exact z1) (by rw [m2]; omega)
          have q := S.inj _ _ tm tt e
          rw [q] at m3
          omega
        · rw [gL5 ⟨by omega, by omega⟩, sp.1]
          rcases ax with ax | ax
          · rw [ax]; rfl
          · rw [ax]; rfl
        · rw [gL2 ⟨by omega, by omega⟩]; omega
        · rw [gL1 ⟨by have := tt.1; omega, by have := tt.1; omega⟩]
      · rw [pv 10 (by omega), vg_10, gL0 ⟨by omega, by omega⟩]
        by_cases q : 0 < (d : Int)
        · have zz : isZ (L 0 (L 0 a)) := d3 0 (by omega)
          have z2 := zz.2
          rw [if_pos q, if_pos (show spF (L 0 (L 0 a)) = 1 from if_pos zz), gL3 ⟨by omega, by omega⟩]
          exact (S.wgt _ tg (by omega)).symm
        · have e : d = 0 := by omega
          subst e
          have d5 : L 0 (L 0 a) = 47 := d5
          rw [if_neg q, d5]
          exact if_neg (by decide)
      · rw [pv 11 (by omega), vg_11, gK9 ⟨by omega, by omega⟩ (by omega), d1]
      · rw [sv d d3 0, d5]
        exact if_neg (by decide)
