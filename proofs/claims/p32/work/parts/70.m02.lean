/-! MATHEMATICS: counting, finding -/
theorem smG_zero {f : Int → Int} : ∀ m : Nat, (∀ o : Int, 0 ≤ o → o < m → f o = 0) → smG f m = 0
  | 0, _ => rfl
  | m + 1, h => by
    unfold smG
    rw [smG_zero m (fun o h1 h2 => h o h1 (by omega)), h m (by omega) (by omega)]
    rfl
theorem smG_card : ∀ (m : Nat) (f pos : Int → Int) (c : Int), 0 ≤ c → (∀ o : Int, 0 ≤ o → o < m → f o = 0 ∨ f o = 1) → (∀ o : Int, 0 ≤ o → o < m → f o = 1 → 0 ≤ pos o ∧ pos o < c) →
    (∀ o u : Int, 0 ≤ o → o < m → 0 ≤ u → u < m → f o = 1 → f u = 1 → pos o = pos u → o = u) → (∀ i : Int, 0 ≤ i → i < c → ∃ o : Int, 0 ≤ o ∧ o < m ∧ f o = 1 ∧ pos o = i) → smG f m = c
  | 0, f, pos, c, hc, h01, hr, hi, hs => by
    by_cases h : c = 0
    · rw [h]; rfl
    · obtain ⟨o, o1, o2, -⟩ := hs 0 (by omega) (by omega)
      omega
  | m + 1, f, pos, c, hc, h01, hr, hi, hs => by
    unfold smG
    rcases h01 m (by omega) (by omega) with h | h
    · rw [smG_card m f pos c hc (fun o h1 h2 => h01 o h1 (by omega)) (fun o h1 h2 => hr o h1 (by omega)) (fun o u h1 h2 h3 h4 => hi o u h1 (by omega) h3 (by omega)) (fun i h1 h2 => ?_), h]
      · omega
      · obtain ⟨o, o1, o2, o3, o4⟩ := hs i h1 h2
        have : o ≠ m := by intro e; subst e; omega
        exact ⟨o, o1, by omega, o3, o4⟩
    · have rm := hr m (by omega) (by omega) h
      rw [smG_card m f (fun o => if pos m < pos o then pos o - 1 else pos o) (c - 1) (by omega) (fun o h1 h2 => h01 o h1 (by omega)) (fun o h1 h2 h3 => ?_) (fun o u h1 h2 h3 h4 h5 h6 h7 => ?_) (fun i h1 h2 => ?_), h]
      · omega
      · have a1 := hr o h1 (by omega) h3
        have a2 := hi o m h1 (by omega) (by omega) (by omega) h3 h
        by_cases e : pos o = pos m
        · have := a2 e; omega
        · show 0 ≤ (if pos m < pos o then pos o - 1 else pos o) ∧ (if pos m < pos o then pos o - 1 else pos o) < c - 1
          split <;> omega
      · have a1 := hi o u h1 (by omega) h3 (by omega) h5 h6
        have a2 := hi o m h1 (by omega) (by omega) (by omega) h5 h
        have a3 := hi u m h3 (by omega) (by omega) (by omega) h6 h
        have h8 : (if pos m < pos o then pos o - 1 else pos o) = (if pos m < pos u then pos u - 1 else pos u) := h7
        grind
      · have a1 := hs i h1 (by omega)
        have a2 := hs (i + 1) (by omega) (by omega)
        by_cases e : i < pos m
        · obtain ⟨o, o1, o2, o3, o4⟩ := a1
          have : o ≠ m := by intro e; subst e; omega
          refine ⟨o, o1, by omega, o3, ?_⟩
          show (if pos m < pos o then pos o - 1 else pos o) = i
          split <;> omega
        · obtain ⟨o, o1, o2, o3, o4⟩ := a2
          have : o ≠ m := by intro e; subst e; omega
          refine ⟨o, o1, by omega, o3, ?_⟩
          show (if pos m < pos o then pos o - 1 else pos o) = i
          split <;> omega
theorem laG_hit {f : Int → Int} {t : Int} : ∀ m : Nat, 0 ≤ t → t < m → f t = 1 → (∀ u : Int, 0 ≤ u → u < m → f u = 1 → u = t) → laG f m = t
  | 0, h1, h2, _, _ => by omega
  | m + 1, h1, h2, h3, hu => by
    unfold laG
    split
    · rename_i hx
      exact hu m (by omega) (by omega) hx
    · rename_i hx
      have : t ≠ m := by intro e; subst e; exact hx h3
      exact laG_hit m h1 (by omega) h3 (fun u h4 h5 => hu u h4 (by omega))
theorem laG_no {f : Int → Int} : ∀ m : Nat, (∀ u : Int, 0 ≤ u → u < m → f u ≠ 1) → laG f m = -1
  | 0, _ => rfl
  | m + 1, h => by
    unfold laG
    rw [if_neg (h m (by omega) (by omega))]
    exact laG_no m (fun u h1 h2 => h u h1 (by omega))
theorem fmG_hit {f : Int → Int} {e t : Int} : ∀ d : Nat, e - d ≤ t → t < e → f t = 1 → (∀ u : Int, e - d ≤ u → u < e → f u = 1 → u = t) → fmG f e d = t
  | 0, h1, h2, _, _ => by omega
  | d + 1, h1, h2, h3, hu => by
    unfold fmG
    split
    · rename_i hx
      exact hu _ (by omega) (by omega) hx
    · rename_i hx
      have : t ≠ e - (d + 1) := by intro e9; subst e9; exact hx h3
      exact fmG_hit d (by omega) h2 h3 (fun u h4 h5 => hu u (by omega) h5)
theorem fmG_no {f : Int → Int} {e : Int} : ∀ d : Nat, (∀ u : Int, e - d ≤ u → u < e → f u ≠ 1) → fmG f e d = -1
  | 0, _ => rfl
  | d + 1, h => by
    unfold fmG
    rw [if_neg (h _ (by omega) (by omega))]
    exact fmG_no d (fun u h1 h2 => h u (by omega) h2)
theorem fmG_get {f : Int → Int} {e : Int} : ∀ d : Nat, (fmG f e d = -1 ∧ ∀ u : Int, e - d ≤ u → u < e → f u ≠ 1) ∨ ((e - d ≤ fmG f e d ∧ fmG f e d < e) ∧ f (fmG f e d) = 1)
  | 0 => Or.inl ⟨rfl, fun u h1 h2 => by omega⟩
  | d + 1 => by
    unfold fmG
    split
    · rename_i hx
      exact Or.inr ⟨⟨by omega, by omega⟩, hx⟩
    · rename_i hx
      rcases fmG_get (f := f) (e := e) d with ⟨h1, h2⟩ | ⟨h1, h2⟩
      · refine Or.inl ⟨h1, fun t h3 h4 => ?_⟩
        by_cases ht : t = e - (d + 1)
        · rw [ht]; exact hx
        · exact h2 t (by omega) h4
      · exact Or.inr ⟨⟨by omega, h1.2⟩, h2⟩
/-! THE RELATION of the class's layout and the reference's tree: u names the node of a thing; q is a group that lies nowhere as yet (none: -1), kq its kind -/
abbrev Us (L : Mem) (q g : Int) : Prop := (16 ≤ g ∧ g < 47) ∧ (L 0 g ≠ -1 ∨ g = q)
def Wf (L : Mem) (q : Int) : Prop :=
  (Mb L) ∧
  (∀ p : Int, 0 ≤ p → p < 16 → L 0 p = -1 ∨ (16 ≤ L 0 p ∧ L 0 p < 32)) ∧
  (∀ g : Int, 16 ≤ g → g < 32 → L 0 g = -1 ∨ (32 ≤ L 0 g ∧ L 0 g < 49)) ∧
  (∀ s : Int, 32 ≤ s → s < 47 → L 0 s = -1 ∨ (32 ≤ L 0 s ∧ L 0 s < 48)) ∧
  (∀ t : Int, 0 ≤ t → t < 49 → L 0 t ≠ -1 → L 0 t < 47 → L 0 (L 0 t) ≠ -1 ∨ L 0 t = q) ∧
  (L 0 47 = -1) ∧
  (L 0 48 = -1) ∧
  (L 2 47 ≤ 1) ∧
  (∀ s : Int, 32 ≤ s → s < 47 → L 5 (s - 32) = 0 ∨ L 5 (s - 32) = 1) ∧
  (q = -1 ∨ (16 ≤ q ∧ q < 32 ∧ L 0 q = -1)) ∧
  (∃ r : Int → Nat, ∀ t : Int, 16 ≤ t → t < 47 → 32 ≤ L 0 t → L 0 t < 47 → r t < r (L 0 t))
theorem Wf.mb {L : Mem} {q : Int} (h9 : Wf L q) : Mb L := h9.1
theorem Wf.pan {L : Mem} {q : Int} (h9 : Wf L q) : ∀ p : Int, 0 ≤ p → p < 16 → L 0 p = -1 ∨ (16 ≤ L 0 p ∧ L 0 p < 32) := h9.2.1
theorem Wf.grp {L : Mem} {q : Int} (h9 : Wf L q) : ∀ g : Int, 16 ≤ g → g < 32 → L 0 g = -1 ∨ (32 ≤ L 0 g ∧ L 0 g < 49) := h9.2.2.1
theorem Wf.spl {L : Mem} {q : Int} (h9 : Wf L q) : ∀ s : Int, 32 ≤ s → s < 47 → L 0 s = -1 ∨ (32 ≤ L 0 s ∧ L 0 s < 48) := h9.2.2.2.1
theorem Wf.own {L : Mem} {q : Int} (h9 : Wf L q) : ∀ t : Int, 0 ≤ t → t < 49 → L 0 t ≠ -1 → L 0 t < 47 → L 0 (L 0 t) ≠ -1 ∨ L 0 t = q := h9.2.2.2.2.1
theorem Wf.tw {L : Mem} {q : Int} (h9 : Wf L q) : L 0 47 = -1 := h9.2.2.2.2.2.1
theorem Wf.ts {L : Mem} {q : Int} (h9 : Wf L q) : L 0 48 = -1 := h9.2.2.2.2.2.2.1
theorem Wf.win {L : Mem} {q : Int} (h9 : Wf L q) : L 2 47 ≤ 1 := h9.2.2.2.2.2.2.2.1
theorem Wf.axs {L : Mem} {q : Int} (h9 : Wf L q) : ∀ s : Int, 32 ≤ s → s < 47 → L 5 (s - 32) = 0 ∨ L 5 (s - 32) = 1 := h9.2.2.2.2.2.2.2.2.1
theorem Wf.loo {L : Mem} {q : Int} (h9 : Wf L q) : q = -1 ∨ (16 ≤ q ∧ q < 32 ∧ L 0 q = -1) := h9.2.2.2.2.2.2.2.2.2.1
theorem Wf.rank {L : Mem} {q : Int} (h9 : Wf L q) : ∃ r : Int → Nat, ∀ t : Int, 16 ≤ t → t < 47 → 32 ≤ L 0 t → L 0 t < 47 → r t < r (L 0 t) := h9.2.2.2.2.2.2.2.2.2.2
theorem Wf.mk {L : Mem} {q : Int} (h_mb : Mb L) (h_pan : ∀ p : Int, 0 ≤ p → p < 16 → L 0 p = -1 ∨ (16 ≤ L 0 p ∧ L 0 p < 32)) (h_grp : ∀ g : Int, 16 ≤ g → g < 32 → L 0 g = -1 ∨ (32 ≤ L 0 g ∧ L 0 g < 49)) (h_spl : ∀ s : Int, 32 ≤ s → s < 47 → L 0 s = -1 ∨ (32 ≤ L 0 s ∧ L 0 s < 48)) (h_own : ∀ t : Int, 0 ≤ t → t < 49 → L 0 t ≠ -1 → L 0 t < 47 → L 0 (L 0 t) ≠ -1 ∨ L 0 t = q) (h_tw : L 0 47 = -1) (h_ts : L 0 48 = -1) (h_win : L 2 47 ≤ 1) (h_axs : ∀ s : Int, 32 ≤ s → s < 47 → L 5 (s - 32) = 0 ∨ L 5 (s - 32) = 1) (h_loo : q = -1 ∨ (16 ≤ q ∧ q < 32 ∧ L 0 q = -1)) (h_rank : ∃ r : Int → Nat, ∀ t : Int, 16 ≤ t → t < 47 → 32 ≤ L 0 t → L 0 t < 47 → r t < r (L 0 t)) : Wf L q := ⟨h_mb, h_pan, h_grp, h_spl, h_own, h_tw, h_ts, h_win, h_axs, h_loo, h_rank⟩
def kindL (L : Mem) (q kq g : Int) : Int := if g < 32 then (if g = q then kq else if L 0 g = 48 then 4 else 1) else L 5 (g - 32) + 2
def Rl (u : Int → Int) (L T : Mem) (q kq : Int) : Prop :=
  (Wf L q) ∧
  (kq = 1 ∨ kq = 4) ∧
  (∀ g : Int, Us L q g → 0 ≤ u g ∧ u g < 32) ∧
  (∀ g h : Int, Us L q g → Us L q h → u g = u h → g = h) ∧
  (∀ o : Int, 0 ≤ o → o < 32 → T 0 o ≠ 0 → ∃ g : Int, Us L q g ∧ u g = o) ∧
  (∀ g : Int, Us L q g → T 0 (u g) = kindL L q kq g) ∧
  (∀ g : Int, Us L q g → T 1 (u g) = if 32 ≤ L 0 g ∧ L 0 g < 47 then u (L 0 g) else -1) ∧
  (∀ g : Int, Us L q g → g ≠ q → T 2 (u g) = L 1 g) ∧
  (∀ g : Int, Us L q g → 32 ≤ L 0 g → L 0 g < 47 → T 3 (u g) = L 3 g) ∧
  (∀ g : Int, Us L q g → g < 32 → T 4 (u g) = L 4 (g - 16)) ∧
  (∀ g : Int, Us L q g → L 0 g = 48 → T 5 (u g) = L 6 (2 * (g - 16)) ∧ T 6 (u g) = L 6 (2 * (g - 16) + 1) ∧ T 7 (u g) = L 7 (2 * (g - 16)) ∧ T 8 (u g) = L 7 (2 * (g - 16) + 1)) ∧
  (∀ p : Int, 0 ≤ p → p < 16 → T 9 p = if L 0 p = -1 then -1 else u (L 0 p)) ∧
  (∀ p : Int, 0 ≤ p → p < 16 → L 0 p ≠ -1 → T 10 p = L 1 p)
theorem Rl.wf {u : Int → Int} {L T : Mem} {q kq : Int} (h9 : Rl u L T q kq) : Wf L q := h9.1
theorem Rl.kk {u : Int → Int} {L T : Mem} {q kq : Int} (h9 : Rl u L T q kq) : kq = 1 ∨ kq = 4 := h9.2.1
theorem Rl.rng {u : Int → Int} {L T : Mem} {q kq : Int} (h9 : Rl u L T q kq) : ∀ g : Int, Us L q g → 0 ≤ u g ∧ u g < 32 := h9.2.2.1
theorem Rl.inj {u : Int → Int} {L T : Mem} {q kq : Int} (h9 : Rl u L T q kq) : ∀ g h : Int, Us L q g → Us L q h → u g = u h → g = h := h9.2.2.2.1
theorem Rl.sur {u : Int → Int} {L T : Mem} {q kq : Int} (h9 : Rl u L T q kq) : ∀ o : Int, 0 ≤ o → o < 32 → T 0 o ≠ 0 → ∃ g : Int, Us L q g ∧ u g = o := h9.2.2.2.2.1
theorem Rl.knd {u : Int → Int} {L T : Mem} {q kq : Int} (h9 : Rl u L T q kq) : ∀ g : Int, Us L q g → T 0 (u g) = kindL L q kq g := h9.2.2.2.2.2.1
theorem Rl.par {u : Int → Int} {L T : Mem} {q kq : Int} (h9 : Rl u L T q kq) : ∀ g : Int, Us L q g → T 1 (u g) = if 32 ≤ L 0 g ∧ L 0 g < 47 then u (L 0 g) else -1 := h9.2.2.2.2.2.2.1
theorem Rl.pos {u : Int → Int} {L T : Mem} {q kq : Int} (h9 : Rl u L T q kq) : ∀ g : Int, Us L q g → g ≠ q → T 2 (u g) = L 1 g := h9.2.2.2.2.2.2.2.1
theorem Rl.wt {u : Int → Int} {L T : Mem} {q kq : Int} (h9 : Rl u L T q kq) : ∀ g : Int, Us L q g → 32 ≤ L 0 g → L 0 g < 47 → T 3 (u g) = L 3 g := h9.2.2.2.2.2.2.2.2.1
theorem Rl.act {u : Int → Int} {L T : Mem} {q kq : Int} (h9 : Rl u L T q kq) : ∀ g : Int, Us L q g → g < 32 → T 4 (u g) = L 4 (g - 16) := h9.2.2.2.2.2.2.2.2.2.1
theorem Rl.box {u : Int → Int} {L T : Mem} {q kq : Int} (h9 : Rl u L T q kq) : ∀ g : Int, Us L q g → L 0 g = 48 → T 5 (u g) = L 6 (2 * (g - 16)) ∧ T 6 (u g) = L 6 (2 * (g - 16) + 1) ∧ T 7 (u g) = L 7 (2 * (g - 16)) ∧ T 8 (u g) = L 7 (2 * (g - 16) + 1) := h9.2.2.2.2.2.2.2.2.2.2.1
theorem Rl.pan {u : Int → Int} {L T : Mem} {q kq : Int} (h9 : Rl u L T q kq) : ∀ p : Int, 0 ≤ p → p < 16 → T 9 p = if L 0 p = -1 then -1 else u (L 0 p) := h9.2.2.2.2.2.2.2.2.2.2.2.1
theorem Rl.pla {u : Int → Int} {L T : Mem} {q kq : Int} (h9 : Rl u L T q kq) : ∀ p : Int, 0 ≤ p → p < 16 → L 0 p ≠ -1 → T 10 p = L 1 p := h9.2.2.2.2.2.2.2.2.2.2.2.2
theorem Rl.mk {u : Int → Int} {L T : Mem} {q kq : Int} (h_wf : Wf L q) (h_kk : kq = 1 ∨ kq = 4) (h_rng : ∀ g : Int, Us L q g → 0 ≤ u g ∧ u g < 32) (h_inj : ∀ g h : Int, Us L q g → Us L q h → u g = u h → g = h) (h_sur : ∀ o : Int, 0 ≤ o → o < 32 → T 0 o ≠ 0 → ∃ g : Int, Us L q g ∧ u g = o) (h_knd : ∀ g : Int, Us L q g → T 0 (u g) = kindL L q kq g) (h_par : ∀ g : Int, Us L q g → T 1 (u g) = if 32 ≤ L 0 g ∧ L 0 g < 47 then u (L 0 g) else -1) (h_pos : ∀ g : Int, Us L q g → g ≠ q → T 2 (u g) = L 1 g) (h_wt : ∀ g : Int, Us L q g → 32 ≤ L 0 g → L 0 g < 47 → T 3 (u g) = L 3 g) (h_act : ∀ g : Int, Us L q g → g < 32 → T 4 (u g) = L 4 (g - 16)) (h_box : ∀ g : Int, Us L q g → L 0 g = 48 → T 5 (u g) = L 6 (2 * (g - 16)) ∧ T 6 (u g) = L 6 (2 * (g - 16) + 1) ∧ T 7 (u g) = L 7 (2 * (g - 16)) ∧ T 8 (u g) = L 7 (2 * (g - 16) + 1)) (h_pan : ∀ p : Int, 0 ≤ p → p < 16 → T 9 p = if L 0 p = -1 then -1 else u (L 0 p)) (h_pla : ∀ p : Int, 0 ≤ p → p < 16 → L 0 p ≠ -1 → T 10 p = L 1 p) : Rl u L T q kq := ⟨h_wf, h_kk, h_rng, h_inj, h_sur, h_knd, h_par, h_pos, h_wt, h_act, h_box, h_pan, h_pla⟩
section RL
variable {u : Int → Int} {L T : Mem} {q kq : Int}
theorem Rl.hus (R : Rl u L T q kq) {t : Int} (ht : 16 ≤ t ∧ t < 47) (h : 32 ≤ L 0 t ∧ L 0 t < 47) : Us L q (L 0 t) :=
  ⟨⟨by omega, by omega⟩, R.wf.own t (by omega) (by omega) (by omega) (by omega)⟩
theorem Rl.pus (R : Rl u L T q kq) {p : Int} (hp : 0 ≤ p ∧ p < 16) (h : L 0 p ≠ -1) : Us L q (L 0 p) := by
  have h0 := R.wf.pan p hp.1 hp.2
  exact ⟨⟨by omega, by omega⟩, R.wf.own p (by omega) (by omega) h (by omega)⟩
/-- how many panes a group has -/
theorem Rl.tabs (R : Rl u L T q kq) {g : Int} (hg : Us L q g) (h32 : g < 32) {P : Int} (hP : 0 ≤ P ∧ P ≤ 16) (hc : ∀ p : Int, P ≤ p → p < 16 → L 0 p = -1) : tbT T P (u g) = L 2 g := by
  have hg16 := hg.1.1
  have ug := R.rng g hg
  have key : ∀ o : Int, 0 ≤ o → o < 16 → (T 9 o = u g ↔ L 0 o = g) := by
    intro o h1 h2
    have e := R.pan o h1 h2
    by_cases h : L 0 o = -1
    · rw [if_pos h] at e; omega
    · rw [if_neg h] at e
      have b := R.pus ⟨h1, h2⟩ h
      first | with_reducible refine Rl.mk ?_ ?_ ?_ ?_ ?_ ?_ ?_ ?_ ?_ ?_ ?_ ?_ ?_ | with_reducible refine Wf.mk ?_ ?_ ?_ ?_ ?_ ?_ ?_ ?_ ?_ ?_ ?_ | with_reducible refine Mb.mk ?_ ?_ ?_ ?_ ?_ | constructor
      · intro h3; exact R.inj _ _ b hg (by omega)
      · intro h3; rw [e, h3]
  have hx := R.wf.mb.nng g (by omega) (by omega)
  unfold tbT
  refine smG_card _ _ (fun o => L 1 o) _ hx (fun o h1 h2 => ?_) (fun o h1 h2 h3 => ?_) (fun o v h1 h2 h3 h4 h5 h6 h7 => ?_) (fun i h1 h2 => ?_)
  · unfold ind; split <;> simp
  · have k := key o h1 (by omega)
    have : L 0 o = g := by unfold ind at h3; grind
    have := R.wf.mb.rng o (by omega) (by omega) (by omega)
    grind
  · have k := key o h1 (by omega)
    have k2 := key v h3 (by omega)
    have e1 : L 0 o = g := by unfold ind at h5; grind
    have e2 : L 0 v = g := by unfold ind at h6; grind
    exact R.wf.mb.inj o v h1 (by omega) h3 (by omega) (by omega) (by omega) h7
  · obtain ⟨t, t1, t2, t3, t4⟩ := R.wf.mb.sur g i (by omega) (by omega) h1 h2
    have t16 : t < 16 := by
      by_cases h : t < 16
      · exact h
      · have a1 := R.wf.grp t
        have a2 := R.wf.spl t
        have a3 := R.wf.tw
        have a4 := R.wf.ts
        by_cases c1 : t < 32
        · have := a1 (by omega) c1; omega
        · by_cases c2 : t < 47
          · have := a2 (by omega) c2; omega
          · by_cases c3 : t = 47
            · subst c3; omega
            · have : t = 48 := by omega
              subst this; omega
    have tP : t < P := by
      by_cases h : t < P
      · exact h
      · have := hc t (by omega) t16; omega
    refine ⟨t, t1, by omega, ?_, t4⟩
    have k := key t t1 t16
    unfold ind
    rw [if_pos (k.mpr t3)]
end RL
