/-! boxes: floating groups, the root -/
def LeL (f : Int → Int) (L : Mem) : Prop := ∀ p ax : Int, 0 ≤ p → p < 16 → (ax = 0 ∨ ax = 1) → L 0 p ≠ -1 → 1 ≤ f (2 * p + ax)
def Vl (L : Mem) : Prop :=
  (∀ t : Int, 0 ≤ t → t < 49 → isZ (L 0 t) → 1 ≤ L 3 t ∧ L 3 t ≤ 1000000) ∧
  (∀ g : Int, 16 ≤ g → g < 32 → L 0 g = 48 → ∀ ax : Int, (ax = 0 ∨ ax = 1) → (0 ≤ L 6 (2 * (g - 16) + ax) ∧ L 6 (2 * (g - 16) + ax) ≤ 399) ∧ 1 ≤ L 7 (2 * (g - 16) + ax) ∧ L 7 (2 * (g - 16) + ax) ≤ 400)
theorem Vl.wts {L : Mem} (h9 : Vl L) : ∀ t : Int, 0 ≤ t → t < 49 → isZ (L 0 t) → 1 ≤ L 3 t ∧ L 3 t ≤ 1000000 := h9.1
theorem Vl.flo {L : Mem} (h9 : Vl L) : ∀ g : Int, 16 ≤ g → g < 32 → L 0 g = 48 → ∀ ax : Int, (ax = 0 ∨ ax = 1) → (0 ≤ L 6 (2 * (g - 16) + ax) ∧ L 6 (2 * (g - 16) + ax) ≤ 399) ∧ 1 ≤ L 7 (2 * (g - 16) + ax) ∧ L 7 (2 * (g - 16) + ax) ≤ 400 := h9.2
theorem Vl.mk {L : Mem} (h_wts : ∀ t : Int, 0 ≤ t → t < 49 → isZ (L 0 t) → 1 ≤ L 3 t ∧ L 3 t ≤ 1000000) (h_flo : ∀ g : Int, 16 ≤ g → g < 32 → L 0 g = 48 → ∀ ax : Int, (ax = 0 ∨ ax = 1) → (0 ≤ L 6 (2 * (g - 16) + ax) ∧ L 6 (2 * (g - 16) + ax) ≤ 399) ∧ 1 ≤ L 7 (2 * (g - 16) + ax) ∧ L 7 (2 * (g - 16) + ax) ≤ 400) : Vl L := ⟨h_wts, h_flo⟩
theorem gmx_ge {f : Int → Int} {L : Mem} {x ax : Int} : ∀ (m : Nat) (j : Int), 0 ≤ j → j < m → f (2 * mbrF L x j + ax) ≤ gmx f L x ax m
  | 0, j, h1, h2 => by omega
  | m + 1, j, h1, h2 => by
    show f (2 * mbrF L x j + ax) ≤ max (gmx f L x ax m) (f (2 * mbrF L x m + ax))
    by_cases z : j = m
    · subst z; omega
    · have := gmx_ge (f := f) (L := L) (x := x) (ax := ax) m j h1 (by omega); omega
theorem WE.low {f : Int → Int} {L : Mem} {V : Int → Int → Int} (W : Wf L (-1)) (F : Fu L) (hf : LeB f) (hl : LeL f L) (h : ∀ x : Int, InT L x → WE f L V x) {r : Int → Nat} (hb : ∀ x : Int, r x ≤ 16) (hr : ∀ t : Int, 16 ≤ t → t < 47 → 32 ≤ L 0 t → L 0 t < 47 → r t < r (L 0 t)) :
    ∀ (n : Nat) (x : Int), r x ≤ n → InT L x → ∀ ax : Int, (ax = 0 ∨ ax = 1) → 1 ≤ V x ax
  | n, x, hn, hx, ax, ha => by
    have b := hx.rg
    have e := h x hx ax ha
    have x0 : L 0 x ≠ -1 := by have := hx.1.2; omega
    have fx := (F x b.1 b.2).2 x0
    by_cases z : isZ x
    · rw [if_pos z] at e
      have f2 := fx.2 z.1
      have ih : ∀ j : Int, 0 ≤ j → j < ((L 2 x).toNat : Int) → 1 ≤ V (mbrF L x j) ax := by
        intro j h1 h2
        obtain ⟨a, c, d⟩ := mbrF_get W.mb (h := x) (i := j) ⟨by omega, by omega⟩ ⟨h1, by omega⟩
        have m := W.mem a (by have := z.1; omega)
        have rr := hr (mbrF L x j) m.1 m.2 (by rw [c]; exact z.1) (by rw [c]; exact z.2)
        rw [c] at rr
        cases n with
        | zero => omega
        | succ n => exact WE.low W F hf hl h hb hr n (mbrF L x j) (by omega) (kidT W z ⟨h1, by omega⟩) ax ha
      have i0 := ih 0 (by omega) (by omega)
      by_cases y : L 5 (x - 32) = ax
      · rw [if_pos y] at e
        have s1 := smG_ge (fun j => V (mbrF L x j) ax) 1 (L 2 x).toNat (fun j h1 h2 => ih j h1 h2)
        have wb := wr_b (smG (fun j => V (mbrF L x j) ax) (L 2 x).toNat + L 2 x - 1)
        have bn := WE.bnd W F hf h hb hr (r x) x (Nat.le_refl _) hx ax ha
        have s2 := smG_le (fun j => V (mbrF L x j) ax) 1000 (L 2 x).toNat (fun j h1 h2 => by
          have := WE.bnd W F hf h hb hr _ (mbrF L x j) (Nat.le_refl _) (kidT W z ⟨h1, by omega⟩) ax ha
          have := lvN_b L (mbrF L x j)
          show V (mbrF L x j) ax ≤ 1000
          omega)
        have c16 := W.cnt16 F (h := x) ⟨by omega, by omega⟩
        rw [wr_id (by omega)] at e
        omega
      · rw [if_neg y] at e
        have := mmG_ge (f := fun j => V (mbrF L x j) ax) (L 2 x).toNat 0 (by omega) (by omega)
        have this : V (mbrF L x 0) ax ≤ mmG (fun j => V (mbrF L x j) ax) (L 2 x).toNat := this
        omega
    · rw [if_neg z] at e
      have h32 : x < 32 := by unfold isZ at z; omega
      have nn := W.mb.nng x (by omega) (by omega)
      obtain ⟨a, c, -⟩ := mbrF_get W.mb (h := x) (i := 0) ⟨by omega, by omega⟩ ⟨by omega, by omega⟩
      have a16 := W.memG a (by omega)
      have := gmx_ge (f := f) (L := L) (x := x) (ax := ax) (L 2 x).toNat 0 (by omega) (by omega)
      have := hl (mbrF L x 0) ax a.1 a16 ha (by omega)
      omega
theorem pfG_e {P L : Mem} (W : Wf L (-1)) (F : Fu L) (hV : Vl L) (hM : MoT P L) : ∀ j : Nat, (j : Int) ≤ L 2 48 →
    (∀ k : Int, 0 ≤ k → k < j → ∀ ax : Int, (ax = 0 ∨ ax = 1) → pfG P L j 5 (2 * mbrF L 48 k + ax) = L 6 (2 * (mbrF L 48 k - 16) + ax) ∧ pfG P L j 6 (2 * mbrF L 48 k + ax) = L 7 (2 * (mbrF L 48 k - 16) + ax) ∧ pfG P L j 7 (mbrF L 48 k) = 0) ∧
      (∀ (y ax : Int), (ax = 0 ∨ ax = 1) → (∀ k : Int, 0 ≤ k → k < j → y ≠ mbrF L 48 k) → pfG P L j 5 (2 * y + ax) = P 5 (2 * y + ax) ∧ pfG P L j 6 (2 * y + ax) = P 6 (2 * y + ax) ∧ pfG P L j 7 y = P 7 y) ∧
      (∀ (k : Nat) (i : Int), k ≠ 5 → k ≠ 6 → k ≠ 7 → pfG P L j k i = P k i)
  | 0, _ => ⟨fun k h1 h2 => by omega, fun _ _ _ _ => ⟨rfl, rfl, rfl⟩, fun _ _ _ _ _ => rfl⟩
  | j + 1, hj => by
    obtain ⟨p1, p2, p3⟩ := pfG_e W F hV hM j (by omega)
    have hM2 : MoT (pfG P L j) L := fun h i a c d e => by rw [p3 1 _ (by omega) (by omega) (by omega)]; exact hM h i a c d e
    have me : mo (pfG P L j) 48 j = mbrF L 48 j := mo_e W F hM2 ⟨by omega, by omega⟩
    obtain ⟨a, c, d⟩ := mbrF_get W.mb (h := 48) (i := j) ⟨by omega, by omega⟩ ⟨by omega, by omega⟩
    have gm := W.mem a (by omega)
    have g32 : mbrF L 48 j < 32 := by
      have := W.spl (mbrF L 48 j)
      omega
    have fl0 := hV.flo _ gm.1 g32 c 0 (Or.inl rfl)
    have fl1 := hV.flo _ gm.1 g32 c 1 (Or.inr rfl)
    have e : pfG P L (j + 1) = up (up (up (up (up (pfG P L j) 5 (2 * mbrF L 48 j + 0) (L 6 (2 * (mbrF L 48 j - 16) + 0))) 6 (2 * mbrF L 48 j + 0) (L 7 (2 * (mbrF L 48 j - 16) + 0))) 5 (2 * mbrF L 48 j + 1) (L 6 (2 * (mbrF L 48 j - 16) + 1))) 6 (2 * mbrF L 48 j + 1) (L 7 (2 * (mbrF L 48 j - 16) + 1))) 7 (mbrF L 48 j) 0 := by
      rw [pfG, me]
      unfold pfS
      rw [gL_6 ⟨by omega, by omega⟩, gL_7 ⟨by omega, by omega⟩, gL_6 ⟨by omega, by omega⟩, gL_7 ⟨by omega, by omega⟩, spnF_in gm (Or.inl rfl) (by omega) (by omega), spnF_in gm (Or.inr rfl) (by omega) (by omega), sK_in ⟨by omega, by omega⟩ (by decide) (by omega)]
    have kinj : ∀ k l : Int, 0 ≤ k → k < L 2 48 → 0 ≤ l → l < L 2 48 → mbrF L 48 k = mbrF L 48 l → k = l := fun k l h1 h2 h3 h4 e => by
      have a := (mbrF_get W.mb (h := 48) (i := k) ⟨by omega, by omega⟩ ⟨h1, h2⟩).2.2
      rw [e, (mbrF_get W.mb (h := 48) (i := l) ⟨by omega, by omega⟩ ⟨h3, h4⟩).2.2] at a
      exact a.symm
    rw [e]
    generalize pfG P L j = Y at *
    refine ⟨fun k h1 h2 ax ha => ?_, fun y ax ha hy => ?_, fun k i k5 k6 k7 => ?_⟩
    · by_cases z : k = j
      · subst z
        rcases ha with rfl | rfl
        · refine ⟨?_, ?_, ?_⟩
          · simp only [up_e]; rw [if_neg (by omega), if_neg (by omega), if_neg (by omega), if_neg (by omega), if_pos (by simp)]
          · simp only [up_e]; rw [if_neg (by omega), if_neg (by omega), if_neg (by omega), if_pos (by simp)]
          · simp only [up_e]; rw [if_pos (by simp)]
        · refine ⟨?_, ?_, ?_⟩
          · simp only [up_e]; rw [if_neg (by omega), if_neg (by omega), if_pos (by simp)]
          · simp only [up_e]; rw [if_neg (by omega), if_pos (by simp)]
          · simp only [up_e]; rw [if_pos (by simp)]
      · have n : mbrF L 48 k ≠ mbrF L 48 j := fun e => z (kinj k j h1 (by omega) (by omega) (by omega) e)
        obtain ⟨a1, a2, a3⟩ := p1 k h1 (by omega) ax ha
        refine ⟨?_, ?_, ?_⟩
        · simp only [up_e]; rw [if_neg (by omega), if_neg (by omega), if_neg (by omega), if_neg (by omega), if_neg (by omega), a1]
        · simp only [up_e]; rw [if_neg (by omega), if_neg (by omega), if_neg (by omega), if_neg (by omega), if_neg (by omega), a2]
        · simp only [up_e]; rw [if_neg (fun q => n q.2), if_neg (by omega), if_neg (by omega), if_neg (by omega), if_neg (by omega), a3]
    · have n := hy j (by omega) (by omega)
      obtain ⟨a1, a2, a3⟩ := p2 y ax ha (fun k h1 h2 => hy k h1 (by omega))
      refine ⟨?_, ?_, ?_⟩
      · simp only [up_e]; rw [if_neg (by omega), if_neg (by omega), if_neg (by omega), if_neg (by omega), if_neg (by omega), a1]
      · simp only [up_e]; rw [if_neg (by omega), if_neg (by omega), if_neg (by omega), if_neg (by omega), if_neg (by omega), a2]
      · simp only [up_e]; rw [if_neg (fun q => n q.2), if_neg (by omega), if_neg (by omega), if_neg (by omega), if_neg (by omega), a3]
    · simp only [up_e]
      rw [if_neg (by omega), if_neg (by omega), if_neg (by omega), if_neg (by omega), if_neg (by omega)]
      exact p3 k i k5 k6 k7
/-- floating groups and the root have their boxes; nothing else is changed but boxes and depths -/
def Tp (L : Mem) (w h : Int) (P : Mem) : Prop :=
  (∀ g ax : Int, 16 ≤ g → g < 32 → L 0 g = 48 → (ax = 0 ∨ ax = 1) → P 5 (2 * g + ax) = L 6 (2 * (g - 16) + ax) ∧ P 6 (2 * g + ax) = L 7 (2 * (g - 16) + ax) ∧ P 7 g = 0) ∧
  (∀ x : Int, InT L x → L 0 x = 47 → P 5 (2 * x + 0) = 0 ∧ P 5 (2 * x + 1) = 0 ∧ P 6 (2 * x + 0) = w ∧ P 6 (2 * x + 1) = h ∧ P 7 x = 0)
theorem Tp.flo {L : Mem} {w h : Int} {P : Mem} (h9 : Tp L w h P) : ∀ g ax : Int, 16 ≤ g → g < 32 → L 0 g = 48 → (ax = 0 ∨ ax = 1) → P 5 (2 * g + ax) = L 6 (2 * (g - 16) + ax) ∧ P 6 (2 * g + ax) = L 7 (2 * (g - 16) + ax) ∧ P 7 g = 0 := h9.1
theorem Tp.roo {L : Mem} {w h : Int} {P : Mem} (h9 : Tp L w h P) : ∀ x : Int, InT L x → L 0 x = 47 → P 5 (2 * x + 0) = 0 ∧ P 5 (2 * x + 1) = 0 ∧ P 6 (2 * x + 0) = w ∧ P 6 (2 * x + 1) = h ∧ P 7 x = 0 := h9.2
theorem Tp.mk {L : Mem} {w h : Int} {P : Mem} (h_flo : ∀ g ax : Int, 16 ≤ g → g < 32 → L 0 g = 48 → (ax = 0 ∨ ax = 1) → P 5 (2 * g + ax) = L 6 (2 * (g - 16) + ax) ∧ P 6 (2 * g + ax) = L 7 (2 * (g - 16) + ax) ∧ P 7 g = 0) (h_roo : ∀ x : Int, InT L x → L 0 x = 47 → P 5 (2 * x + 0) = 0 ∧ P 5 (2 * x + 1) = 0 ∧ P 6 (2 * x + 0) = w ∧ P 6 (2 * x + 1) = h ∧ P 7 x = 0) : Tp L w h P := ⟨h_flo, h_roo⟩
theorem prF_e {P L : Mem} (W : Wf L (-1)) (F : Fu L) (hV : Vl L) (hM : MoT P L) {w h : Int} (hw : 0 ≤ w ∧ w ≤ 1000) (hh : 0 ≤ h ∧ h ≤ 1000) : Tp L w h (prF (pfF P L) w h) ∧ ∀ (k : Nat) (i : Int), k ≠ 5 → k ≠ 6 → k ≠ 7 → prF (pfF P L) w h k i = P k i := by
  have nn := W.mb.nng 48 (by omega) (by omega)
  have w0 := W.mb.nng 47 (by omega) (by omega)
  have w1 := W.win
  have eP : pfF P L = pfG P L (L 2 48).toNat := by unfold pfF; rw [gL_2 ⟨by omega, by omega⟩]
  obtain ⟨p1, p2, p3⟩ := pfG_e W F hV hM (L 2 48).toNat (by omega)
  have hM2 : MoT (pfG P L (L 2 48).toNat) L := fun h i a c d e => by rw [p3 1 _ (by omega) (by omega) (by omega)]; exact hM h i a c d e
  have me : mo (pfG P L (L 2 48).toNat) 47 0 = mbrF L 47 0 := mo_e W F hM2 ⟨by omega, by omega⟩
  have flo : ∀ g ax : Int, 16 ≤ g → g < 32 → L 0 g = 48 → (ax = 0 ∨ ax = 1) → pfG P L (L 2 48).toNat 5 (2 * g + ax) = L 6 (2 * (g - 16) + ax) ∧ pfG P L (L 2 48).toNat 6 (2 * g + ax) = L 7 (2 * (g - 16) + ax) ∧ pfG P L (L 2 48).toNat 7 g = 0 := by
    intro g ax h1 h2 h3 ha
    have r := W.mb.rng g (by omega) (by omega) (by omega)
    have hit := mbrF_hit W.mb (h := 48) (t := g) ⟨by omega, by omega⟩ h3 (by omega)
    rw [h3] at r
    have := p1 (L 1 g) r.1 (by omega) ax ha
    rw [hit] at this
    exact this
  rw [eP]
  generalize pfG P L (L 2 48).toNat = Y at *
  unfold prF
  rw [me]
  by_cases z : L 2 47 = 1
  · obtain ⟨a, c, d⟩ := mbrF_get W.mb (h := 47) (i := 0) ⟨by omega, by omega⟩ ⟨by omega, by omega⟩
    have gm := W.mem a (by omega)
    rw [if_neg (by omega), spnF_in gm (Or.inl rfl) (by omega) (by omega), spnF_in gm (Or.inr rfl) (by omega) (by omega), sK_in ⟨by omega, by omega⟩ (by decide) (by omega)]
    refine ⟨?_, fun k i k5 k6 k7 => ?_⟩
    · first | with_reducible refine Tp.mk ?_ ?_ | with_reducible refine Vl.mk ?_ ?_ | with_reducible refine Lk.mk ?_ | with_reducible refine RfQ.mk ?_ ?_ ?_ ?_ | with_reducible refine ShQ.mk ?_ ?_ ?_ ?_ | with_reducible refine Que.mk ?_ ?_ ?_ ?_ ?_ ?_ ?_ ?_ | with_reducible refine QuI.mk ?_ ?_ ?_ ?_ ?_ ?_ | with_reducible refine Ord.mk ?_ ?_ ?_ ?_ ?_ ?_ ?_ ?_ ?_ ?_ | with_reducible refine LnI.mk ?_ ?_ ?_ ?_ ?_ ?_ ?_ ?_ ?_ ?_ ?_ ?_ ?_ ?_ ?_ ?_ ?_ | with_reducible refine Rl.mk ?_ ?_ ?_ ?_ ?_ ?_ ?_ ?_ ?_ ?_ ?_ ?_ ?_ | with_reducible refine Wf.mk ?_ ?_ ?_ ?_ ?_ ?_ ?_ ?_ ?_ ?_ ?_ | with_reducible refine Mb.mk ?_ ?_ ?_ ?_ ?_ | constructor
      · intro g ax h1 h2 h3 ha
        have n : g ≠ mbrF L 47 0 := by intro e; rw [e, c] at h3; omega
        obtain ⟨a1, a2, a3⟩ := flo g ax h1 h2 h3 ha
        refine ⟨?_, ?_, ?_⟩
        · simp only [up_e]; rw [if_neg (by omega), if_neg (by omega), if_neg (by omega), if_neg (by omega), if_neg (by omega), a1]
        · simp only [up_e]; rw [if_neg (by omega), if_neg (by omega), if_neg (by omega), if_neg (by omega), if_neg (by omega), a2]
        · simp only [up_e]; rw [if_neg (fun q => n q.2), if_neg (by omega), if_neg (by omega), if_neg (by omega), if_neg (by omega), a3]
      · intro x hx e
        have := (hx.root W e).2
        subst this
        refine ⟨?_, ?_, ?_, ?_, ?_⟩
        · simp only [up_e]; rw [if_neg (by omega), if_neg (by omega), if_neg (by omega), if_neg (by omega), if_pos (by simp)]
        · simp only [up_e]; rw [if_neg (by omega), if_neg (by omega), if_pos (by simp)]
        · simp only [up_e]; rw [if_neg (by omega), if_neg (by omega), if_neg (by omega), if_pos (by simp)]
        · simp only [up_e]; rw [if_neg (by omega), if_pos (by simp)]
        · simp only [up_e]; rw [if_pos (by simp)]
    · simp only [up_e]
      rw [if_neg (by omega), if_neg (by omega), if_neg (by omega), if_neg (by omega), if_neg (by omega)]
      exact p3 k i k5 k6 k7
  · rw [mbrF_out W.mb (by omega) (by omega), if_pos rfl]
    refine ⟨?_, p3⟩
    first | with_reducible refine Tp.mk ?_ ?_ | with_reducible refine Vl.mk ?_ ?_ | with_reducible refine Lk.mk ?_ | with_reducible refine RfQ.mk ?_ ?_ ?_ ?_ | with_reducible refine ShQ.mk ?_ ?_ ?_ ?_ | with_reducible refine Que.mk ?_ ?_ ?_ ?_ ?_ ?_ ?_ ?_ | with_reducible refine QuI.mk ?_ ?_ ?_ ?_ ?_ ?_ | with_reducible refine Ord.mk ?_ ?_ ?_ ?_ ?_ ?_ ?_ ?_ ?_ ?_ | with_reducible refine LnI.mk ?_ ?_ ?_ ?_ ?_ ?_ ?_ ?_ ?_ ?_ ?_ ?_ ?_ ?_ ?_ ?_ ?_ | with_reducible refine Rl.mk ?_ ?_ ?_ ?_ ?_ ?_ ?_ ?_ ?_ ?_ ?_ ?_ ?_ | with_reducible refine Wf.mk ?_ ?_ ?_ ?_ ?_ ?_ ?_ ?_ ?_ ?_ ?_ | with_reducible refine Mb.mk ?_ ?_ ?_ ?_ ?_ | constructor
    · exact flo
    · intro x hx e
      exact absurd (hx.root W e).1 z
