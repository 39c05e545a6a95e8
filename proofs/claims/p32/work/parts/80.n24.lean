/-! BOTH SIDES AT ONCE -/
theorem jDs_R {m mu' : Mem} {w : Nat} {i o g side : Int} (h : R32 m) (hm : 0 ≤ m w 3 ∧ m w 3 ≤ 12) (hg : 0 ≤ g ∧ g < 5) (hs : 0 ≤ side ∧ side ≤ 4) (H : jDs m w i o g side mu') : R32 mu' := by
  rcases H with ⟨-, rfl⟩ | ⟨-, rfl⟩
  · exact jP_R h _ _ (by omega) ⟨by omega, by omega⟩ (h _ _) ⟨by omega, by omega⟩
  · have r1 := jP_R h w i (k := 2 + side / 2) (we := m (w + 1) (3 * i + 1)) (gr := -1) (by omega) ⟨by omega, by omega⟩ (h _ _) ⟨by omega, by omega⟩
    have e1 := jP_3 m w i (2 + side / 2) (m (w + 1) (3 * i + 1)) (-1)
    generalize jP m w i (2 + side / 2) (m (w + 1) (3 * i + 1)) (-1) = m1 at *
    have r2 : R32 (up m1 (w + 1) (3 * i + 4) 1) := R32_up r1 _ _ ⟨by omega, by omega⟩
    have e2 : up m1 (w + 1) (3 * i + 4) 1 w 3 = m1 w 3 := by rw [up_e, if_neg (by omega)]
    generalize up m1 (w + 1) (3 * i + 4) 1 = m2 at *
    have r3 := jP_R r2 w (i + 1 + side % 2) (k := 1) (we := 1) (gr := g) (by omega) ⟨by omega, by omega⟩ ⟨by omega, by omega⟩ ⟨by omega, by omega⟩
    have e3 := jP_3 m2 w (i + 1 + side % 2) 1 1 g
    exact jP_R r3 _ _ (by omega) ⟨by omega, by omega⟩ ⟨by omega, by omega⟩ ⟨by omega, by omega⟩
theorem jD_R {mu mu' : Mem} {w : Nat} {p t side an : Int} (h : R32 mu) (hm : 0 ≤ mu w 2 ∧ mu w 2 ≤ 5) (hs : 0 ≤ mu w 3) (hp : 0 ≤ p ∧ p < 5) (hsd : 0 ≤ side ∧ side ≤ 4) (H : jD mu w p t side mu' an) : R32 mu' ∧ -2147483648 ≤ an ∧ an ≤ 2147483647 := by
  obtain ⟨m1, hK, h3, hto, H⟩ := H
  obtain ⟨R1, e2⟩ := jK_R h hm hs hK
  have tb := jT_b (mu := m1) (w := w) (gr := m1 (w + 2) (4 * t + 2)) (by omega)
  rcases H with ⟨-, rfl, ea⟩ | ⟨-, ea, g, o, hfg, hi, hu, hd⟩
  · refine ⟨R32_up (R32_up (R32_up R1 _ _ ⟨by omega, by omega⟩) _ _ ⟨by omega, by omega⟩) _ _ ⟨by omega, by omega⟩, by omega⟩
  · have RF := jF_R R1 w hp hfg.1
    have F3 := jF_x m1 w p g (show w ≠ w + 2 by omega) 3
    exact ⟨jDs_R RF (by omega) hfg.1 hsd hd, by omega⟩
theorem jE_R {mu mu' : Mem} {w : Nat} {p side : Int} (h : R32 mu) (hm : 0 ≤ mu w 2 ∧ mu w 2 ≤ 5) (hs : 0 ≤ mu w 3) (hp : 0 ≤ p ∧ p < 5) (hsd : 0 ≤ side ∧ side ≤ 4) (H : jE mu w p side mu') : R32 mu' := by
  obtain ⟨m1, g, hK, h3, hfg, H⟩ := H
  obtain ⟨R1, e2⟩ := jK_R h hm hs hK
  have RF := jF_R R1 w hp hfg.1
  have F3 := jF_x m1 w p g (show w ≠ w + 2 by omega) 3
  generalize jF m1 w p g = m at *
  have hg := hfg.1
  rcases H with ⟨-, rfl⟩ | ⟨-, -, N, q, -, -, -, rfl⟩ | ⟨-, -, rfl⟩
  · exact jP_R RF _ _ (by omega) ⟨by omega, by omega⟩ ⟨by omega, by omega⟩ ⟨by omega, by omega⟩
  · exact jP_R RF _ _ (by omega) ⟨by omega, by omega⟩ (RF _ _) ⟨by omega, by omega⟩
  · have r2 : R32 (up m (w + 1) 1 1) := R32_up RF _ _ ⟨by omega, by omega⟩
    have e2' : up m (w + 1) 1 1 w 3 = m w 3 := by rw [up_e, if_neg (by omega)]
    generalize up m (w + 1) 1 1 = m2 at *
    have r3 := jP_R r2 w (if side % 2 = 1 then m w 3 else 0) (k := 1) (we := 1) (gr := g) (by omega) ⟨by omega, by omega⟩ ⟨by omega, by omega⟩ ⟨by omega, by omega⟩
    have e3 := jP_3 m2 w (if side % 2 = 1 then m w 3 else 0) 1 1 g
    generalize jP m2 w (if side % 2 = 1 then m w 3 else 0) 1 1 g = m3 at *
    have r4 := jP_R r3 w 0 (k := 2 + side / 2) (we := 1) (gr := -1) (by omega) ⟨by omega, by omega⟩ ⟨by omega, by omega⟩ ⟨by omega, by omega⟩
    have e4 := jP_3 m3 w 0 (2 + side / 2) 1 (-1)
    exact jP_R r4 _ _ (by omega) ⟨by omega, by omega⟩ ⟨by omega, by omega⟩ ⟨by omega, by omega⟩
theorem Lr.eL {mu : Mem} {w : Nat} {L L' : Mem} {P : Int} (A : Lr mu w L P (-1)) (H : Ly L P) (e : ∀ (k : Nat) (i : Int), k < 8 → L' k i = L k i) : Lr mu w L' P (-1) := by
  obtain ⟨o, c, S⟩ := A.sg
  refine Lr.mk ⟨o, c, S.cg (fun x => by unfold Tn; rw [e 0 _ (by omega)]) (fun x _ => e 0 x (by omega)) (fun x _ => e 1 x (by omega)) (fun x _ _ => e 2 x (by omega)) (fun x _ _ => e 3 x (by omega)) (fun x _ _ => e 5 x (by omega)) (fun _ _ _ => rfl) H.wf.tw9.hol⟩ A.np (fun k h1 h2 => ?_) (fun k h1 h2 h3 => ?_) (fun x h1 h2 h3 => ?_) ?_ (fun t h1 h2 h3 => ?_) (fun k h1 h2 => ?_)
  · rw [e 0 _ (by omega)]; exact A.grp k h1 h2
  · rw [e 0 _ (by omega)] at h3
    rw [e 1 _ (by omega)]; exact A.pla k h1 h2 h3
  · rw [e 0 _ (by omega)] at h3
    rw [e 4 _ (by omega)]; exact A.act x h1 h2 h3
  · rw [e 2 _ (by omega)]; exact A.flo
  · rw [e 0 _ (by omega)] at h3
    rw [e 1 _ (by omega)]; exact A.fli t h1 h2 h3
  · rw [e 0 _ (by omega)]; exact A.low k h1 h2
def Cw (N : Int) (mu : Mem) (c h t p b : Nat) : Prop := (∃ (s past tx : Int → Int) (np nt : Int), CR N mu c h t p b s past tx np nt) ∧ R32 mu
def Wi (N : Int) (mu : Mem) (c h t p b w : Nat) : Prop :=
  (Cw N mu c h t p b) ∧
  (Lr mu w (lay mu (c + 2)) (mu c 2) (-1)) ∧
  (0 ≤ mu c 2 ∧ mu c 2 ≤ 5) ∧
  (mu w 0 = mu c 0 ∧ mu w 1 = mu c 1) ∧
  (∀ k : Int, 0 ≤ k → k < mu c 2 → mu (w + 2) (4 * k) = mu (c + 1) (2 * k) ∧ mu (w + 2) (4 * k + 1) = mu (c + 1) (2 * k + 1))
theorem Wi.cw {N : Int} {mu : Mem} {c h t p b w : Nat} (h9 : Wi N mu c h t p b w) : Cw N mu c h t p b := h9.1
theorem Wi.lr {N : Int} {mu : Mem} {c h t p b w : Nat} (h9 : Wi N mu c h t p b w) : Lr mu w (lay mu (c + 2)) (mu c 2) (-1) := h9.2.1
theorem Wi.p5 {N : Int} {mu : Mem} {c h t p b w : Nat} (h9 : Wi N mu c h t p b w) : 0 ≤ mu c 2 ∧ mu c 2 ≤ 5 := h9.2.2.1
theorem Wi.hd {N : Int} {mu : Mem} {c h t p b w : Nat} (h9 : Wi N mu c h t p b w) : mu w 0 = mu c 0 ∧ mu w 1 = mu c 1 := h9.2.2.2.1
theorem Wi.ls {N : Int} {mu : Mem} {c h t p b w : Nat} (h9 : Wi N mu c h t p b w) : ∀ k : Int, 0 ≤ k → k < mu c 2 → mu (w + 2) (4 * k) = mu (c + 1) (2 * k) ∧ mu (w + 2) (4 * k + 1) = mu (c + 1) (2 * k + 1) := h9.2.2.2.2
theorem Wi.mk {N : Int} {mu : Mem} {c h t p b w : Nat} (h_cw : Cw N mu c h t p b) (h_lr : Lr mu w (lay mu (c + 2)) (mu c 2) (-1)) (h_p5 : 0 ≤ mu c 2 ∧ mu c 2 ≤ 5) (h_hd : mu w 0 = mu c 0 ∧ mu w 1 = mu c 1) (h_ls : ∀ k : Int, 0 ≤ k → k < mu c 2 → mu (w + 2) (4 * k) = mu (c + 1) (2 * k) ∧ mu (w + 2) (4 * k + 1) = mu (c + 1) (2 * k + 1)) : Wi N mu c h t p b w := ⟨h_cw, h_lr, h_p5, h_hd, h_ls⟩
section WI
variable {N M : Int} {mu : Mem} {c h t p b q w : Nat}
theorem Cw.off {mu' : Mem} (O : Od c h t p b q w) (A : Cw N mu c h t p b) (e : ∀ (x : Nat) (i : Int), x < w → mu' x i = mu x i) (R : R32 mu') : Cw N mu' c h t p b := by
  obtain ⟨⟨s, past, tx, np, nt, A⟩, -⟩ := A
  exact ⟨⟨s, past, tx, np, nt, A.off O e (fun _ _ _ => rfl) (fun _ _ _ => rfl) (fun _ _ _ => rfl)⟩, R⟩
theorem Cw.mono (A : Cw N mu c h t p b) (hN : N ≤ M) : Cw M mu c h t p b := by
  obtain ⟨⟨s, past, tx, np, nt, A⟩, R⟩ := A
  exact ⟨⟨s, past, tx, np, nt, A.mono hN⟩, R⟩
theorem Cw.wo (A : Cw N mu c h t p b) (hN : 0 ≤ N ∧ N ≤ 16000000) : Wo mu c h t p := by
  obtain ⟨⟨s, past, tx, np, nt, A⟩, R⟩ := A
  exact A.wo hN R
theorem Cw.lyt (A : Cw N mu c h t p b) : ∃ T : Mem, LR N (lay mu (c + 2)) T (mu c 2) := by
  obtain ⟨⟨s, past, tx, np, nt, A⟩, R⟩ := A
  exact ⟨_, A.st.lyt⟩
theorem Cw.bd9 (A : Cw N mu c h t p b) (hN : 0 ≤ N) : Bd N (lay mu (c + 2)) := by
  obtain ⟨⟨s, past, tx, np, nt, A⟩, R⟩ := A
  exact (A.bd hN).1
theorem Cw.nxt (A : Cw N mu c h t p b) : 0 ≤ mu h 2 ∧ mu h 2 < 4 := by
  obtain ⟨⟨s, past, tx, np, nt, A⟩, R⟩ := A
  exact A.hy.nxt
theorem Cw.lay9 {L' T' : Mem} (O : Od c h t p b q w) (A : Cw N mu c h t p b) (hN : 0 ≤ N ∧ N ≤ M ∧ M ≤ 2147483647) (hL : LR M L' T' (mu c 2)) (hB : Bd M L') :
    Cw M (stlM (putL (pshM mu c h) (c + 2) L') p c) c h t p b ∧ (∀ (x : Nat) (i : Int), w ≤ x → stlM (putL (pshM mu c h) (c + 2) L') p c x i = mu x i) ∧ (∀ i : Int, stlM (putL (pshM mu c h) (c + 2) L') p c c i = mu c i) ∧ (∀ i : Int, stlM (putL (pshM mu c h) (c + 2) L') p c (c + 1) i = mu (c + 1) i) ∧
      ∀ (k : Nat) (i : Int), k < 8 → lay (stlM (putL (pshM mu c h) (c + 2) L') p c) (c + 2) k i = L' k i := by
  have nx := A.nxt
  obtain ⟨⟨s, past, tx, np, nt, A⟩, R⟩ := A
  obtain ⟨c1, c2, c3⟩ := A.cls9 O R hN hL hB
  have O' := O
  obtain ⟨o1, o2, o3, o4, o5, o6⟩ := O'
  refine ⟨⟨⟨_, _, _, _, _, c1⟩, c2⟩, c3, fun i => ?_, fun i => ?_, fun k i hk => lay_mut (by omega) hk i⟩
  · rw [stlM_x _ _ (by omega), putL_x (by omega), pshM_off nx (by omega)]
  · rw [stlM_x _ _ (by omega), putL_x (by omega), pshM_off nx (by omega)]
theorem Wi.ly (A : Wi N mu c h t p b w) : Ly (lay mu (c + 2)) (mu c 2) := by
  obtain ⟨T, hT⟩ := A.cw.lyt
  exact hT.ly9 A.p5
theorem Wi.al (A : Wi N mu c h t p b w) : Al mu w c p := by
  have H := A.ly
  obtain ⟨⟨⟨s, past, tx, np, nt, C⟩, R⟩, B, p5, hd, ls⟩ := A
  obtain ⟨rk, k1, k2⟩ := C.pln
  exact Al.mk B H hd ls ⟨rk, k1, k2⟩
/-- the law's rows changed behind the class -/
theorem Wi.mk9 {m1 m2 : Mem} {L' : Mem} {P : Int} (O : Od c h t p b q w) (A : Cw N m1 c h t p b) (F : Fr m1 m2 w) (R2 : R32 m2) (B : Lr m2 w L' P (-1)) (H : Ly L' P) (eP : m1 c 2 = P) (eL : ∀ (k : Nat) (i : Int), k < 8 → lay m1 (c + 2) k i = L' k i)
    (hd : m1 w 0 = m1 c 0 ∧ m1 w 1 = m1 c 1) (ls : ∀ k : Int, 0 ≤ k → k < P → m1 (w + 2) (4 * k) = m1 (c + 1) (2 * k) ∧ m1 (w + 2) (4 * k + 1) = m1 (c + 1) (2 * k + 1)) : Wi N m2 c h t p b w := by
  have p5 := H.p5
  have O' := O
  obtain ⟨o1, o2, o3, o4, o5, o6⟩ := O'
  have e : ∀ (x : Nat) (i : Int), x < w → m2 x i = m1 x i := fun x i hx => F.off x i (Or.inl hx)
  have eL2 : ∀ (k : Nat) (i : Int), k < 8 → lay m2 (c + 2) k i = L' k i := fun k i hk => by
    rw [← eL k i hk, lay_e hk, lay_e hk]
    exact e _ _ (by omega)
  have B2 := B.eL H eL2
  have e2 := e c 2 (by omega)
  refine Wi.mk (A.off O e R2) (by rw [e2, eP]; exact B2) (by rw [e2, eP]; exact p5) ⟨?_, ?_⟩ (fun k k1 k2 => ?_)
  · rw [F.hd.1, e _ _ (by omega)]; exact hd.1
  · rw [F.hd.2.1, e _ _ (by omega)]; exact hd.2
  · rw [e2, eP] at k2
    have f := F.lst k k1 (by omega)
    rw [f.1, f.2, e _ _ (by omega), e _ _ (by omega)]
    exact ls k k1 k2
end WI
