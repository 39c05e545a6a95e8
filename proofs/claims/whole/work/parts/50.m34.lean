/-! class and reference lay out alike -/
section CG
variable {m : Nat} {a : Int} {le le' wt wt' fr fr' : Int → Int}
theorem rmS_c (hl : ∀ k : Int, 0 ≤ k → k < m → le k = le' k) (hf : ∀ k : Int, 0 ≤ k → k < m → fr k = fr' k) : rmS m a le fr = rmS m a le' fr' := by
  unfold rmS
  rw [smG_ext m (fun k h1 h2 => by show (if fr k = 1 then 0 else le k) = (if fr' k = 1 then 0 else le' k); rw [hl k h1 h2, hf k h1 h2])]
theorem wgS_c (hw : ∀ k : Int, 0 ≤ k → k < m → wt k = wt' k) (hf : ∀ k : Int, 0 ≤ k → k < m → fr k = fr' k) : wgS m wt fr = wgS m wt' fr' := by
  unfold wgS
  exact smG_ext m (fun k h1 h2 => by show (if fr k = 1 then wt k else 0) = (if fr' k = 1 then wt' k else 0); rw [hw k h1 h2, hf k h1 h2])
theorem paS_c (hl : ∀ k : Int, 0 ≤ k → k < m → le k = le' k) (hw : ∀ k : Int, 0 ≤ k → k < m → wt k = wt' k) (hf : ∀ k : Int, 0 ≤ k → k < m → fr k = fr' k) {k : Int} (hk : 0 ≤ k ∧ k < m) : paS m a le wt fr k = paS m a le' wt' fr' k := by
  unfold paS
  rw [rmS_c hl hf, wgS_c hw hf, hw k hk.1 hk.2]
theorem frS9_c (hl : ∀ k : Int, 0 ≤ k → k < m → le k = le' k) (hw : ∀ k : Int, 0 ≤ k → k < m → wt k = wt' k) : ∀ (i : Nat) (k : Int), 0 ≤ k → k < m → frS9 m a le wt i k = frS9 m a le' wt' i k
  | 0, k, _, _ => rfl
  | i + 1, k, h1, h2 => by
    have ih := frS9_c hl hw i
    show nxS m a le wt (frS9 m a le wt i) k = nxS m a le' wt' (frS9 m a le' wt' i) k
    unfold nxS
    rw [ih k h1 h2, hl k h1 h2, paS_c hl hw ih ⟨h1, h2⟩]
theorem nwS_c (hl : ∀ k : Int, 0 ≤ k → k < m → le k = le' k) (hw : ∀ k : Int, 0 ≤ k → k < m → wt k = wt' k) (hf : ∀ k : Int, 0 ≤ k → k < m → fr k = fr' k) : nwS m a le wt fr = nwS m a le' wt' fr' := by
  unfold nwS
  exact smG_ext m (fun k h1 h2 => by show (if fr k = 1 ∧ paS m a le wt fr k < le k then (1 : Int) else 0) = (if fr' k = 1 ∧ paS m a le' wt' fr' k < le' k then 1 else 0); rw [hl k h1 h2, hf k h1 h2, paS_c hl hw hf ⟨h1, h2⟩])
theorem hoL_c {lf : Int} (hf : ∀ k : Int, 0 ≤ k → k < m → fr k = fr' k) : ∀ j : Nat, j ≤ m → hoL fr lf j = hoL fr' lf j
  | 0, _ => rfl
  | j + 1, h => by
    unfold hoL
    rw [hoL_c hf j (by omega), hf j (by omega) (by omega)]
theorem shr_c (h : ShOk m a le wt) (hl : ∀ k : Int, 0 ≤ k → k < m → le k = le' k) (hw : ∀ k : Int, 0 ≤ k → k < m → wt k = wt' k) {k : Int} (hk : 0 ≤ k ∧ k < m) : shr m a le wt k = shr m a le' wt' k := by
  obtain ⟨N, hN, hz, hnz⟩ := frS9_end h
  have hf := fun i => frS9_c (a := a) hl hw i
  rw [shr_e hN hz hnz k, shr_e (le := le') (wt := wt') hN (by rw [← nwS_c hl hw (hf N)]; exact hz) (fun i hi => by rw [← nwS_c hl hw (hf i)]; exact hnz i hi) k]
  have es : smG le m = smG le' m := smG_ext m hl
  have et : tsS m a le k = tsS m a le' k := by
    unfold tsS tlS
    have ee : smG (fun j => a * le j / smG le' m) m = smG (fun j => a * le' j / smG le' m) m := smG_ext m (fun j h1 h2 => by show a * le j / smG le' m = a * le' j / smG le' m; rw [hl j h1 h2])
    rw [es, hl k hk.1 hk.2, ee]
  have el : lfS m a le wt (frS9 m a le wt N) = lfS m a le' wt' (frS9 m a le' wt' N) := by
    unfold lfS
    have ee : smG (fun j => if frS9 m a le wt N j = 1 then paS m a le wt (frS9 m a le wt N) j else 0) m = smG (fun j => if frS9 m a le' wt' N j = 1 then paS m a le' wt' (frS9 m a le' wt' N) j else 0) m := smG_ext m (fun j h1 h2 => by show (if frS9 m a le wt N j = 1 then paS m a le wt (frS9 m a le wt N) j else 0) = (if frS9 m a le' wt' N j = 1 then paS m a le' wt' (frS9 m a le' wt' N) j else 0); rw [hf N j h1 h2, paS_c hl hw (hf N) ⟨h1, h2⟩])
    rw [rmS_c hl (hf N), ee]
  have eh : shS m a le wt (frS9 m a le wt N) k = shS m a le' wt' (frS9 m a le' wt' N) k := by
    unfold shS baS bnS
    rw [el, hf N k hk.1 hk.2, hl k hk.1 hk.2, paS_c hl hw (hf N) hk, hoL_c (hf N) k.toNat (by omega)]
  rw [es, et, eh]
end CG
section EQ
variable {u : Int → Int} {L T : Mem} {kq : Int} {f : Int → Int} {w h : Int} {r : Int → Nat} {P Z : Mem} {q : Int} {wn : Int → Int}
/-- least sizes, boxes and what is tight: the same -/
theorem same_V (W : Wf L (-1)) {r : Int → Nat} (hb : ∀ x : Int, r x ≤ 16) (hr : ∀ t : Int, 16 ≤ t → t < 47 → 32 ≤ L 0 t → L 0 t < 47 → r t < r (L 0 t)) (A : PlE L f w h r P) (B : BxI u L f w h r q wn Z q) {x : Int} (hx : InT L x) {ax : Int} (ha : ax = 0 ∨ ax = 1) : VC P x ax = VR u Z x ax :=
  WE.uni W A.p0.we B.we hb hr _ x (Nat.le_refl _) hx ax ha
theorem same_sh (W : Wf L (-1)) (F : Fu L) (hf : LeB f) (hl : LeL f L) (hV : Vl L) {r : Int → Nat} (hb : ∀ x : Int, r x ≤ 16) (hr : ∀ t : Int, 16 ≤ t → t < 47 → 32 ≤ L 0 t → L 0 t < 47 → r t < r (L 0 t)) (A : PlE L f w h r P) (B : BxI u L f w h r q wn Z q) {x : Int} (hx : InT L x) (z : isZ x)
    (hs : P 6 (2 * x + L 5 (x - 32)) = zR u Z x (L 5 (x - 32))) : (∀ k : Int, 0 ≤ k → k < L 2 x → shC P L x k = shV L (VR u Z) (zR u Z x (L 5 (x - 32))) x k) ∧ tgC P L x = tgV L (VR u Z) (zR u Z x (L 5 (x - 32))) x := by
  have z1 := z.1
  have z2 := z.2
  have axs := W.axs x z1 z2
  have nn := W.mb.nng x (by omega) (by omega)
  have bx := (A.bx x hx).1 (L 5 (x - 32)) axs
  have el : ∀ k : Int, 0 ≤ k → k < ((L 2 x).toNat : Int) → leC P L x k = leV L (VR u Z) x k := fun k h1 h2 => same_V W hb hr A B (kidT W z ⟨h1, by omega⟩) axs
  have hS := shOk_e W F hf hl hV A.p0.we hx z (sz := P 6 (2 * x + L 5 (x - 32))) (by omega)
  refine ⟨fun k h1 h2 => ?_, ?_⟩
  · unfold shC shV
    rw [← hs]
    exact shr_c hS el (fun _ _ _ => rfl) ⟨h1, by omega⟩
  · unfold tgC tgV
    rw [← hs, smG_ext _ el]
theorem same_B (W : Wf L (-1)) (F : Fu L) (hf : LeB f) (hl : LeL f L) (hV : Vl L) (hb : ∀ x : Int, r x ≤ 16) (hr : ∀ t : Int, 16 ≤ t → t < 47 → 32 ≤ L 0 t → L 0 t < 47 → r t < r (L 0 t)) (A : PlE L f w h r P) (B : BxI u L f w h r q wn Z q) :
    ∀ (n : Nat) (x : Int), 16 - r x ≤ n → InT L x → ∀ ax : Int, (ax = 0 ∨ ax = 1) → P 5 (2 * x + ax) = sR u Z x ax ∧ P 6 (2 * x + ax) = zR u Z x ax
  | n, x, hn, hx, ax, ha => by
    have b := hx.rg
    rcases hx.hol W with e | s
    · obtain ⟨a1, a2, a3, a4, -⟩ := A.p0.tp.roo x hx e
      obtain ⟨b1, b2, b3, b4⟩ := B.ro x hx e
      rcases ha with rfl | rfl
      · rw [a1, a3, b1, b3]; exact ⟨rfl, rfl⟩
      · rw [a2, a4, b2, b4]; exact ⟨rfl, rfl⟩
    · have a3 := hr x b.1 b.2 s.1 s.2
      have a4 := hb (L 0 x)
      have hp := hx.par W s
      have axs := W.axs (L 0 x) s.1 s.2
      have ih : ∀ ax : Int, (ax = 0 ∨ ax = 1) → P 5 (2 * L 0 x + ax) = sR u Z (L 0 x) ax ∧ P 6 (2 * L 0 x + ax) = zR u Z (L 0 x) ax := by
        intro ax ha
        cases n with
        | zero => omega
        | succ n => exact same_B W F hf hl hV hb hr A B n (L 0 x) (by omega) hp ax ha
      have rg := W.mb.rng x (by omega) (by omega) (by have := s.1; omega)
      have hit := mbrF_hit W.mb (h := L 0 x) (t := x) ⟨by omega, by omega⟩ rfl (by have := s.1; omega)
      have i1 := ih (L 5 (L 0 x - 32)) axs
      have i2 := ih (1 - L 5 (L 0 x - 32)) (by omega)
      obtain ⟨sh, -⟩ := same_sh W F hf hl hV hb hr A B hp s i1.2
      obtain ⟨k, k1, k2, k3⟩ := B.qe.all _ hp
      have c1 := (A.be _ hp s).1 (L 1 x) rg.1 rg.2
      have c2 := B.be k k1 k2 (by rw [k3]; exact s)
      rw [k3] at c2
      have c2 := c2 (L 1 x) rg.1 rg.2
      rw [hit] at c1 c2
      by_cases y : ax = L 5 (L 0 x - 32)
      · rw [y, c1.1, c1.2.1, c2.1, c2.2.1, i1.1, sh _ rg.1 rg.2]
        refine ⟨?_, rfl⟩
        congr 1
        exact smG_ext _ (fun j h1 h2 => by show shC P L (L 0 x) j + 1 = shV L (VR u Z) _ (L 0 x) j + 1; rw [sh j h1 (by omega)])
      · have y' : ax = 1 - L 5 (L 0 x - 32) := by omega
        rw [y', c1.2.2.1, c1.2.2.2.1, c2.2.2.1, c2.2.2.2, i2.1, i2.2]
        exact ⟨rfl, rfl⟩
/-- all of it -/
theorem same (W : Wf L (-1)) (F : Fu L) (hf : LeB f) (hl : LeL f L) (hV : Vl L) (hb : ∀ x : Int, r x ≤ 16) (hr : ∀ t : Int, 16 ≤ t → t < 47 → 32 ≤ L 0 t → L 0 t < 47 → r t < r (L 0 t)) (A : PlE L f w h r P) (B : BxI u L f w h r q wn Z q) {x : Int} (hx : InT L x) :
    (P 4 (2 * x + 0) = Z 7 (u x) ∧ P 4 (2 * x + 1) = Z 8 (u x)) ∧ (P 5 (2 * x + 0) = Z 9 (u x) ∧ P 5 (2 * x + 1) = Z 10 (u x)) ∧ (P 6 (2 * x + 0) = Z 11 (u x) ∧ P 6 (2 * x + 1) = Z 12 (u x)) ∧ (isZ x → P 8 x = Z 13 (u x) ∧ tgC P L x = Z 13 (u x)) := by
  have v0 := same_V W hb hr A B hx (Or.inl rfl)
  have v1 := same_V W hb hr A B hx (Or.inr rfl)
  have b0 := same_B W F hf hl hV hb hr A B _ x (Nat.le_refl _) hx 0 (Or.inl rfl)
  have b1 := same_B W F hf hl hV hb hr A B _ x (Nat.le_refl _) hx 1 (Or.inr rfl)
  have q0 : VR u Z x 0 = Z 7 (u x) := if_pos rfl
  have q1 : VR u Z x 1 = Z 8 (u x) := if_neg (by omega)
  have q2 : sR u Z x 0 = Z 9 (u x) := if_pos rfl
  have q3 : sR u Z x 1 = Z 10 (u x) := if_neg (by omega)
  have q4 : zR u Z x 0 = Z 11 (u x) := if_pos rfl
  have q5 : zR u Z x 1 = Z 12 (u x) := if_neg (by omega)
  refine ⟨⟨v0.trans q0, v1.trans q1⟩, ⟨b0.1.trans q2, b1.1.trans q3⟩, ⟨b0.2.trans q4, b1.2.trans q5⟩, fun z => ?_⟩
  have axs := W.axs x z.1 z.2
  have ba := same_B W F hf hl hV hb hr A B _ x (Nat.le_refl _) hx _ axs
  obtain ⟨k, k1, k2, k3⟩ := B.qe.all x hx
  have ti := B.ti k k1 k2
  rw [k3, if_pos z] at ti
  have tg := (same_sh W F hf hl hV hb hr A B hx z ba.2).2
  rw [(A.be x hx z).2, ti, tg]
  exact ⟨rfl, rfl⟩
end EQ
