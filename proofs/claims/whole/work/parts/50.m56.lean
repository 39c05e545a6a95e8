/-! DRAG: both sides -/
theorem lyM_x {m T Z : Mem} {r : Nat} {q : Int} {x : Nat} {i : Int} (hx : x ≠ r + 1) (h : x < r ∨ (r < x ∧ x < r + 6) ∨ (x = r ∧ i ≠ 9) ∨ r + 15 < x) : lyM m r T q Z x i = m x i := by
  show ptT (zM m r q Z) r T x i = _
  rw [ptT_x _ _ _ hx]
  unfold zM
  rw [if_neg (by omega), if_neg (by omega)]
theorem lyM_1 {m T Z : Mem} {r : Nat} {q : Int} (i : Int) : lyM m r T q Z (r + 1) i = ptS (m (r + 1)) T i := by
  show ptT (zM m r q Z) r T (r + 1) i = _
  rw [ptT_1, show zM m r q Z (r + 1) = m (r + 1) from funext fun j => by unfold zM; rw [if_neg (by omega), if_neg (by omega)]]
theorem lyW_1 (m : Mem) (r : Nat) (i : Int) : lyW m r (r + 1) i = m (r + 1) i := by
  show lyM m r (trT m r) (qW m r) (zW m r) (r + 1) i = _
  rw [lyM_1, trS_T, ptS_self]
section DF
variable {N : Int} {mu : Mem} {c h t p b q r : Nat}
theorem pl_pshM {mu : Mem} {c h p : Nat} (n : 0 ≤ mu h 2 ∧ mu h 2 < 4) (hp : h + 198 ≤ p) : pl (pshM mu c h) p = pl mu p := by
  funext k i
  show (if _ then _ else _) = (if _ then _ else _)
  by_cases z : k < 14
  · rw [if_pos z, if_pos z]; exact pshM_off n (by omega) i
  · rw [if_neg z, if_neg z]
theorem O_drag_b (A : Inv N mu c h t p b r) (hN : 1000000 ≤ N ∧ N ≤ 10000000) {x d : Int} (hf : fdrF mu c p x d = 0) {g s ax : Int} (eg : g = lay mu (c + 2) 0 x) (es : s = lay mu (c + 2) 0 g) (ea : ax = lay mu (c + 2) 5 (s - 32)) :
    gL (lay mu (c + 2)) 0 x = g ∧ gL (lay mu (c + 2)) 0 g = s ∧ gL (lay mu (c + 2)) 5 (s - 32) = ax ∧ gL (lay mu (c + 2)) 2 s = lay mu (c + 2) 2 s ∧ 0 ≤ lay mu (c + 2) 2 s ∧ Bd (N + 20) (mdF (lay mu (c + 2)) (pl mu p) g ax d) := by
  obtain ⟨u, rk, wn, K⟩ := A.lk (by omega) A.2 (fun _ _ _ => rfl)
  obtain ⟨d1, d2, d3, d4, -, -, -, -, -, -, -, -, d13, -⟩ := dragLR A hN K rfl (Z := zW mu r) (fun _ _ _ => rfl) hf eg es ea
  have f1 := (fdr0 hf).1
  have P := A.base.2.1
  have z1 := d3.1
  have z2 := d3.2
  exact ⟨by rw [gL0 (by omega), eg], by rw [gL0 (by omega), es], by rw [gL5 (by omega), ea], gL2 (by omega), K.rl.wf.mb.nng s (by omega) (by omega), d13⟩
theorem O_drag (O : Od c h t p b q r) (A : Inv N mu c h t p b r) (hN : 1000000 ≤ N ∧ N ≤ 9000000) {x d : Int} (hf : fdrF mu c p x d = 0) {g0 s0 ax : Int} (eg : g0 = lay mu (c + 2) 0 x) (es : s0 = lay mu (c + 2) 0 g0) (ea : ax = lay mu (c + 2) 5 (s0 - 32)) {mu1 : Mem} (e1 : mu1 = stlM (putL (pshM mu c h) (c + 2) (mdF (lay mu (c + 2)) (pl mu p) g0 ax d)) p c)
    {mh T Z Tn : Mem} {s g : Int} {m : Nat} (emh : mh = drgH mu1 r) (eT : T = trT mu1 r) (eZ : Z = zOf mh r) (egg : g = T 9 x) (ess : s = T 1 g) (em : m = (kdT T s).toNat) (eTn : Tn = drgT T Z s g d m) :
    ((0 ≤ x ∧ x < 16) ∧ x ≤ mu1 (r + 1) 2 - 1 ∧ -400 ≤ d ∧ d ≤ 400) ∧ MWo mu1 r ∧ (m : Int) = kdT T s ∧ R32 mh ∧ 0 ≤ g ∧ 0 ≤ s ∧ m ≤ 32 ∧ mh r 4 = mu1 r 4 ∧ mh (r + 1) 0 = mu1 (r + 1) 0 ∧ mh (r + 1) 1 = mu1 (r + 1) 1 ∧ mh (r + 1) 2 = mu1 (r + 1) 2 ∧ trT (lyW mu1 r) r = T ∧
    (∀ i : Int, 0 ≤ i → i < m → -1000000 ≤ exF T Z s (chT T s i) ∧ exF T Z s (chT T s i) ≤ 1000000) ∧ (∀ i : Int, 0 ≤ i → i < m → 0 ≤ chT T s i) ∧ LyOk mh r Tn Z (mu1 (r + 1) 0) (mu1 (r + 1) 1) ∧
    gK (pl mu1 p) 6 98 (2 * g0 + ax) = exF Tn (laZ mh r Tn Z (mu1 (r + 1) 0) (mu1 (r + 1) 1)) s g ∧
    Inv (N + 20) (enM (lyM mh r Tn (quT Tn Z).1 (laZ mh r Tn Z (mu1 (r + 1) 0) (mu1 (r + 1) 1))) r) c h t p b r ∧ enM (lyM mh r Tn (quT Tn Z).1 (laZ mh r Tn Z (mu1 (r + 1) 0) (mu1 (r + 1) 1))) r r 7 = 0 := by
  have O' := O
  obtain ⟨o1, o2, o3, o4, o5, o6⟩ := O'
  have mw := A.mw (by omega)
  have n := A.1.hy.nxt
  obtain ⟨eb, P, Lr⟩ := A.base
  obtain ⟨f1, f2, -⟩ := fdr0 hf
  have c3 : ∀ (y : Nat) (i : Int), r ≤ y → mu1 y i = mu y i := fun y i hy => by rw [e1, stlM_x _ _ (by omega), putL_x (by omega), pshM_off n (by omega)]
  have R1 : R32 mu1 := by
    obtain ⟨u, rk, wn, K⟩ := A.lk (by omega) A.2 (fun _ _ _ => rfl)
    obtain ⟨-, -, -, -, -, -, -, -, -, -, -, d12, d13, -⟩ := dragLR A (by omega) K rfl (Z := zW mu r) (fun _ _ _ => rfl) hf eg es ea
    rw [e1]
    exact (A.cls O (by omega) d12 d13).2.1
  have mw1 := mw.off R1 c3
  obtain ⟨u, rk, wn, K⟩ := A.lk (by omega) R1 c3
  have eT9 := trT_off c3
  have hq0 := K.ok.2.1
  have RL : R32 (lyW mu1 r) := lyM_R R1 K.zr mw1.2.1 (by omega) (q := qW mu1 r) (by show -2147483648 ≤ (quT (trT mu1 r) (zOf mu1 r)).1 ∧ (quT (trT mu1 r) (zOf mu1 r)).1 ≤ 2147483647; omega)
  have Rh : R32 mh := by rw [emh]; exact hdM_R RL r
  have hx3 : ∀ (y : Nat) (i : Int), y ≠ r + 3 → mh y i = lyW mu1 r y i := fun y i hy => by rw [emh]; exact hdM_x _ _ hy i
  have mh1 : ∀ i : Int, mh (r + 1) i = mu (r + 1) i := fun i => by rw [hx3 _ _ (by omega), lyW_1, c3 _ _ (by omega)]
  have mhx : ∀ (y : Nat) (i : Int), y ≠ r + 3 → y ≠ r + 1 → (y < r ∨ (r < y ∧ y < r + 6) ∨ (y = r ∧ i ≠ 9)) → mh y i = mu1 y i := fun y i h1 h2 h3 => by
    rw [hx3 _ _ h1]
    exact lyM_x (m := mu1) (T := trT mu1 r) (q := qW mu1 r) (Z := zW mu1 r) h2 (by omega)
  have Zk : ∀ (k : Nat) (i : Int), k = 11 ∨ k = 12 → Z k i = zW mu1 r k i := fun k i hk => by
    rw [eZ]
    show mh (r + k) i = _
    rw [hx3 _ _ (by omega)]
    exact zM_k (mu := mu1) (T := trT mu1 r) (Z := zW mu1 r) (q := qW mu1 r) ⟨by omega, by omega⟩
  obtain ⟨d1, d2, d3, d4, d5, d6, d7, d8, d9, d10, d11, d12, d13, d14⟩ := dragLR A (by omega) K eT9 Zk hf eg es ea
  have ug := K.rl.rng g0 d2.1
  have us := K.rl.rng s0 d4.1
  rw [← eT] at d5 d6 d7 d10 d11 d12
  have gu : g = u g0 := by rw [egg]; exact d5
  have su : s = u s0 := by rw [ess, gu]; exact d6
  have m9 : m = (lay mu (c + 2) 2 s0).toNat := by rw [em, su, d7]
  have nn := K.rl.wf.mb.nng s0 (by have := d4.rg; omega) (by have := d4.rg; omega)
  have Tn9 : Tn = drgT T Z (u s0) (u g0) d (lay mu (c + 2) 2 s0).toNat := by rw [eTn, gu, su, m9]
  rw [← Tn9] at d11 d12
  obtain ⟨c1, -, -⟩ := A.cls O (M := N + 20) (by omega) d12 d13
  rw [← e1] at c1
  have st := c1.st
  have eqL : EqL (mdF (lay mu (c + 2)) (pl mu p) g0 ax d) (lay mu1 (c + 2)) := fun k i hk _ _ => by rw [e1]; exact lay_mut (by omega) hk i
  have R9 : Rl u (lay mu1 (c + 2)) Tn (-1) 1 := d11.c eqL (fun _ _ _ _ _ => rfl)
  obtain ⟨rk', k1, k2⟩ := c1.pln
  have hfr : ∀ p ax : Int, 0 ≤ p → p < 16 → (ax = 0 ∨ ax = 1) → leR mh r ax p = mu1 (c + 1) (2 * p + ax) := fun p ax h1 h2 ha => by
    have := (st.lst (2 * p + ax) (by omega) (by omega)).1
    rw [ptS_x _ _ (by omega)] at this
    unfold leR
    rw [mh1, this]
    congr 1
    omega
  have w0 : mu1 (r + 1) 0 = mu1 c 0 := by have := st.wid.1; rw [ptS_x _ _ (by omega)] at this; rw [c3 _ _ (by omega), this]
  have w1 : mu1 (r + 1) 1 = mu1 c 1 := by have := st.hig.1; rw [ptS_x _ _ (by omega)] at this; rw [c3 _ _ (by omega), this]
  have w2 : mu1 c 2 = mu (r + 1) 2 := by have := st.pan.1; rw [ptS_x _ _ (by omega)] at this; exact this
  have wd := st.wid
  have hi := st.hig
  obtain ⟨⟨wn', B⟩, l1, l2, l3⟩ := laZ_e (mu := mh) (rr := r) (Z := Z) R9 st.lyt.fu st.leB st.leL st.lyt.vl (by rw [eZ]; exact zOf_R Rh r) k1.1 k1.2 (w := mu1 c 0) (h := mu1 c 1) (by omega) (by omega) (by rw [mh1, eb]; exact P) (by rw [mh1, ← w2]; exact st.lyt.cl) hfr Rh
  rw [← w0, ← w1] at B l1
  rw [← w0, ← w1] at k2
  have ok9 : LyOk mh r Tn Z (mu1 (r + 1) 0) (mu1 (r + 1) 1) := ⟨R9.so st.lyt.fu, by omega, l1⟩
  have tbn : TB (N + 20) Tn := d12.tb
  have zr9 : R32Z (laZ mh r Tn Z (mu1 (r + 1) 0) (mu1 (r + 1) 1)) := laZ_R Rh (by rw [eZ]; exact zOf_R Rh r) tbn (by omega) (R1 _ _) (R1 _ _) l1
  have hc : ∀ i : Int, 0 ≤ i → i < m → (0 ≤ exF T Z s (chT T s i) ∧ exF T Z s (chT T s i) ≤ 400) ∧ 0 ≤ chT T s i := fun i h1 h2 => by
    rw [su]; exact d10 i h1 (by omega)
  have gx : InT (lay mu1 (c + 2)) g0 := by
    have e0 : lay mu1 (c + 2) 0 g0 = lay mu (c + 2) 0 g0 := by
      rw [eqL 0 g0 (by omega) (by omega) (by show g0 < 49; omega), d14 0 (by omega)]
    refine ⟨⟨d2.1.1, ?_⟩, by rw [e0]; exact d2.2⟩
    rw [e0]; exact d2.1.2
  have bx := same (f := mu1 (c + 1)) (w := mu1 (r + 1) 0) (h := mu1 (r + 1) 1) R9.wf st.lyt.fu st.leB st.leL st.lyt.vl k1.1 k1.2 k2 B gx
  have I := Inv.fin O (mu1 := mu1) (m := lyM mh r Tn (quT Tn Z).1 (laZ mh r Tn Z (mu1 (r + 1) 0) (mu1 (r + 1) 1))) c1 A.1.hy.cnt.2 (fun y i hy => by rw [lyM_x (by omega) (by omega), mhx _ _ (by omega) (by omega) (by omega)]) (fun i h1 h2 => by
      rw [lyM_1, show mh (r + 1) = mu (r + 1) from funext mh1]) (fun i h1 => by rw [lyM_x (by omega) (by omega), mhx _ _ (by omega) (by omega) (by omega), c3 _ _ (by omega)]) (fun i h1 h2 => by
      rw [lyM_x (by omega) (by omega), emh]
      show hdM (lyW mu1 r) r (r + 3) i = _
      rw [hdM_3 _ _ ⟨h1, h2⟩, lyW_1, c3 _ _ (by omega)]) (by rw [lyM_x (by omega) (by omega), mhx _ _ (by omega) (by omega) (by omega), c3 _ _ (by omega)]) (fun i h1 h2 => by rw [lyM_x (by omega) (by omega), mhx _ _ (by omega) (by omega) (by omega), c3 _ _ (by omega)]) (by rw [lyM_x (by omega) (by omega), mhx _ _ (by omega) (by omega) (by omega), c3 _ _ (by omega)]) (lyM_R Rh zr9 tbn (by omega) (by omega))
  refine ⟨⟨by omega, by rw [c3 _ _ (by omega), eb]; omega, f2⟩, mw1, by rw [m9, su, d7]; omega, Rh, by omega, by omega, by omega, mhx _ _ (by omega) (by omega) (by omega), by rw [mh1, c3 _ _ (by omega)], by rw [mh1, c3 _ _ (by omega)], by rw [mh1, c3 _ _ (by omega)], ?_, fun i h1 h2 => by have := hc i h1 h2; omega, fun i h1 h2 => (hc i h1 h2).2, ok9, ?_, I.1, I.2⟩
  · rw [eT, trS_T, trS_T, show lyW mu1 r (r + 1) = mu1 (r + 1) from funext (lyW_1 mu1 r)]
  · rw [gKr (by omega) (by omega)]
    have kn := K.rl.knd s0 d4.1
    unfold kindL at kn
    rw [if_neg (show ¬ s0 < 32 by have := d3.1; omega), ← eT] at kn
    unfold exF
    rw [su, gu, show Tn 0 (u s0) = T 0 (u s0) by rw [Tn9]; exact drgT_k T Z _ _ _ (by omega) _ _, kn, ← ea]
    rcases d9 with z | z
    · rw [z, if_pos (by omega), bx.2.2.1.1]
    · rw [z, if_neg (by omega), bx.2.2.1.2]
end DF
