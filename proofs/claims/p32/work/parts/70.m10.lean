/-! a new split in place of a node, with it and the new group as children -/
theorem prT_0 {T : Mem} {x g k ah : Int} (o : Int) : prT T x g k ah 0 o = if o = frT T then k else T 0 o := by
  simp only [prT, pr3, pr2, pr1, pr0, up_e, clT_e]; grind
theorem prT_1 {T : Mem} {x g k ah : Int} (hx : x ≠ frT T) (o : Int) : prT T x g k ah 1 o = if o = g then frT T else if o = x then frT T else if o = frT T then T 1 x else T 1 o := by
  simp only [prT, pr3, pr2, pr1, pr0, up_e, clT_e]; grind
theorem prT_2 {T : Mem} {x g k ah : Int} (hx : x ≠ frT T) (o : Int) : prT T x g k ah 2 o = if o = g then (if ah = 0 then 1 else 0) else if o = x then (if ah = 0 then 0 else 1) else if o = frT T then T 2 x else T 2 o := by
  simp only [prT, pr3, pr2, pr1, pr0, up_e, clT_e]; grind
theorem prT_3 {T : Mem} {x g k ah : Int} (hx : x ≠ frT T) (o : Int) : prT T x g k ah 3 o = if o = g then 1 else if o = x then 1 else if o = frT T then T 3 x else T 3 o := by
  simp only [prT, pr3, pr2, pr1, pr0, up_e, clT_e]; grind
theorem prT_k {T : Mem} {x g k ah : Int} {w : Nat} (hw : 4 ≤ w) (o : Int) : prT T x g k ah w o = if w < 9 ∧ o = frT T then 0 else T w o := by
  have h0 : w ≠ 0 := by omega
  have h1 : w ≠ 1 := by omega
  have h2 : w ≠ 2 := by omega
  have h3 : w ≠ 3 := by omega
  simp [prT, pr3, pr2, pr1, pr0, up_e, clT_e, h0, h1, h2, h3]
section RL
variable {u : Int → Int} {L T : Mem} {q kq : Int}
theorem wrapF_rows {g : Int} (W : Wf L g) {x s side : Int} (hs : unuF L 32 47 = s) (hs1 : 32 ≤ s ∧ s < 47) (s2 : L 2 s = 0) (s0 : L 0 s = -1) (hg : 16 ≤ g) (hx : 16 ≤ x ∧ x < 47) (hx0 : 32 ≤ L 0 x ∧ L 0 x < 48) :
    (∀ o : Int, wrapF L x g side 0 o = if o = g then s else if o = x then s else if o = s then L 0 x else L 0 o) ∧
    (∀ o : Int, 0 ≤ o → o < 49 → wrapF L x g side 1 o = if o = g then bhF side else if o = x then (if bhF side = 0 then 1 else 0) else if o = s then L 1 x else L 1 o) ∧
    (∀ o : Int, wrapF L x g side 2 o = if o = s then 2 else L 2 o) ∧
    (∀ o : Int, wrapF L x g side 3 o = if o = g then 1 else if o = x then 1 else if o = s then L 3 x else L 3 o) ∧
    (∀ o : Int, wrapF L x g side 5 o = if o = s - 32 then axF side else L 5 o) ∧
    (∀ (k : Nat) (o : Int), k = 4 ∨ 6 ≤ k → wrapF L x g side k o = L k o) ∧ Mb (wrapF L x g side) := by
  have lo := W.loo
  have bb := bhF_b side
  have hg' : 0 ≤ g ∧ g < 49 := by omega
  have hx' : 0 ≤ x ∧ x < 49 := by omega
  have hs' : 0 ≤ s ∧ s < 49 := by omega
  have hs'' : 16 ≤ s ∧ s < 49 := by omega
  have nxg : x ≠ g := by intro e; subst e; omega
  have nxs : x ≠ s := by intro e; subst e; omega
  have nos : ∀ t : Int, 0 ≤ t → t < 49 → L 0 t ≠ s := by
    intro t h1 h2 e
    have := W.mb.rng t h1 h2 (by omega)
    rw [e] at this
    omega
  have rgx := W.mb.rng x hx'.1 hx'.2 (by omega)
  unfold wrapF wrapA
  rw [hs, pL_5 ⟨by omega, by omega⟩, pL_3 hx', pL_3 hg']
  have A0 : ∀ o : Int, replF (up L 5 (s - 32) (axF side)) x s 0 o = if o = x then -1 else if o = s then L 0 x else L 0 o := fun o => by
    rw [replF_0 hx' hs']; simp [up]
  have A1 : ∀ o : Int, replF (up L 5 (s - 32) (axF side)) x s 1 o = if o = s then L 1 x else L 1 o := fun o => by
    rw [replF_1 hx' hs']; simp [up]
  have A2 : ∀ o : Int, replF (up L 5 (s - 32) (axF side)) x s 2 o = L 2 o := fun o => by
    rw [replF_k (by omega) hx' hs']; simp [up]
  have A3 : ∀ o : Int, replF (up L 5 (s - 32) (axF side)) x s 3 o = if o = s then L 3 x else L 3 o := fun o => by
    rw [replF_3 hx' hs']; simp [up]
  have Ak : ∀ (k : Nat) (o : Int), 4 ≤ k → replF (up L 5 (s - 32) (axF side)) x s k o = if k = 5 ∧ o = s - 32 then axF side else L k o := fun k o hk => by
    rw [replF_k (by omega) hx' hs', up_e]
  have MA : Mb (replF (up L 5 (s - 32) (axF side)) x s) := by
    refine Mb.repl ?_ hx' hs' (by simp [up]; omega) (by simp [up]; omega)
    obtain ⟨m1, m2, m3, m4, m5⟩ := W.mb
    first | with_reducible refine Rl.mk ?_ ?_ ?_ ?_ ?_ ?_ ?_ ?_ ?_ ?_ ?_ ?_ ?_ | with_reducible refine Wf.mk ?_ ?_ ?_ ?_ ?_ ?_ ?_ ?_ ?_ ?_ ?_ | with_reducible refine Mb.mk ?_ ?_ ?_ ?_ ?_ | constructor
    all_goals simpa [up]
  generalize replF (up L 5 (s - 32) (axF side)) x s = A at *
  have B0 : ∀ o : Int, insF A x s 0 0 o = if o = x then s else if o = s then L 0 x else L 0 o := fun o => by
    rw [insF_0 hx' hs'', A0]; grind
  have B1 : ∀ o : Int, 0 ≤ o → o < 49 → insF A x s 0 1 o = if o = x then 0 else if o = s then L 1 x else L 1 o := fun o o1 o2 => by
    have := nos o o1 o2
    rw [insF_1 hx' hs'', A0, A1]; grind
  have B2 : ∀ o : Int, insF A x s 0 2 o = if o = s then 1 else L 2 o := fun o => by
    rw [insF_2 hx' hs'', A2, A2]; grind
  have Bk : ∀ (k : Nat) (o : Int), 3 ≤ k → insF A x s 0 k o = A k o := fun k o hk => insF_k hk hx' hs'' o
  have MB : Mb (insF A x s 0) := MA.ins hx' hs'' (by rw [A0, if_pos rfl]) ⟨by omega, by rw [A2]; omega⟩
  have b0g : insF A x s 0 0 g = -1 := by rw [B0]; grind
  have MC : Mb (insF (insF A x s 0) g s (bhF side)) := MB.ins hg' hs'' b0g ⟨by omega, by rw [B2, if_pos rfl]; omega⟩
  have C0 : ∀ o : Int, insF (insF A x s 0) g s (bhF side) 0 o = if o = g then s else if o = x then s else if o = s then L 0 x else L 0 o := fun o => by
    rw [insF_0 hg' hs'', B0]
  have C1 : ∀ o : Int, 0 ≤ o → o < 49 → insF (insF A x s 0) g s (bhF side) 1 o = if o = g then bhF side else if o = x then (if bhF side = 0 then 1 else 0) else if o = s then L 1 x else L 1 o := fun o o1 o2 => by
    have := nos o o1 o2
    have := nos x (by omega) (by omega)
    rw [insF_1 hg' hs'', B0, B1 o o1 o2]; grind
  have C2 : ∀ o : Int, insF (insF A x s 0) g s (bhF side) 2 o = if o = s then 2 else L 2 o := fun o => by
    rw [insF_2 hg' hs'', B2, B2]; grind
  have Ck : ∀ (k : Nat) (o : Int), 3 ≤ k → insF (insF A x s 0) g s (bhF side) k o = A k o := fun k o hk => by rw [insF_k hk hg' hs'', Bk k o hk]
  generalize insF (insF A x s 0) g s (bhF side) = C at *
  refine ⟨fun o => ?_, fun o o1 o2 => ?_, fun o => ?_, fun o => ?_, fun o => ?_, fun k o hk => ?_, ?_⟩
  · rw [up_e, up_e, if_neg (by omega), if_neg (by omega), C0]
  · rw [up_e, up_e, if_neg (by omega), if_neg (by omega), C1 o o1 o2]
  · rw [up_e, up_e, if_neg (by omega), if_neg (by omega), C2]
  · rw [up_e, up_e, Ck 3 o (by omega), A3]; simp
  · rw [up_e, up_e, if_neg (by omega), if_neg (by omega), Ck 5 o (by omega), Ak 5 o (by omega)]; simp
  · rw [up_e, up_e, if_neg (by omega), if_neg (by omega), Ck k o (by omega), Ak k o (by omega), if_neg (by omega)]
  · obtain ⟨m1, m2, m3, m4, m5⟩ := MC
    first | with_reducible refine Rl.mk ?_ ?_ ?_ ?_ ?_ ?_ ?_ ?_ ?_ ?_ ?_ ?_ ?_ | with_reducible refine Wf.mk ?_ ?_ ?_ ?_ ?_ ?_ ?_ ?_ ?_ ?_ ?_ | with_reducible refine Mb.mk ?_ ?_ ?_ ?_ ?_ | constructor
    all_goals simpa [up]
theorem Rl.wrap {g : Int} (R : Rl u L T g 1) {x s side ah : Int} (hsd : 0 ≤ side ∧ side ≤ 3) (hs : unuF L 32 47 = s) (hs1 : 32 ≤ s ∧ s < 47) (s2 : L 2 s = 0) (s0 : L 0 s = -1) (hg : 16 ≤ g) (hx : Us L g x) (hx0 : 32 ≤ L 0 x ∧ L 0 x < 48)
    (hah : ah = if side % 2 = 0 then 1 else 0) (hf : 0 ≤ frT T ∧ frT T < 32) (hf0 : T 0 (frT T) = 0) : Rl (fun y => if y = s then frT T else u y) (wrapF L x g side) (prT T (u x) (u g) (if side < 2 then 2 else 3) ah) (-1) 1 := by
  have bx := hx.1
  obtain ⟨e0, e1, e2, e3, e5, ek, MW⟩ := wrapF_rows R.wf (side := side) hs hs1 s2 s0 hg hx.1 hx0
  have lo := R.wf.loo
  have nxg : x ≠ g := by intro e; subst e; omega
  have nxs : x ≠ s := by intro e; subst e; omega
  have ngs : g ≠ s := by omega
  have ug : Us L g g := ⟨by omega, Or.inr rfl⟩
  have ehx : L 0 x ≠ s := by
    intro e
    have := R.wf.mb.rng x (by omega) (by omega) (by omega)
    rw [e] at this; omega
  generalize hnn : frT T = n at *
  have fre : ∀ y : Int, Us L g y → u y ≠ n := by
    intro y hy e
    have k1 := R.knd y hy
    have ax := R.wf.axs y
    have := hy.1
    unfold kindL at k1
    rw [e, hf0] at k1
    grind
  have nsu : ∀ y : Int, Us L g y → y ≠ s := by
    intro y hy e
    have := hy.2
    subst e
    omega
  have us : ∀ y : Int, Us (wrapF L x g side) (-1) y ↔ (Us L g y ∨ y = s) := by
    intro y; unfold Us; rw [e0]; grind
  have une : ∀ y z : Int, Us L g y → Us L g z → y ≠ z → u y ≠ u z := fun y z hy hz h e => h (R.inj y z hy hz e)
  have nos : ∀ t : Int, 0 ≤ t → t < 49 → L 0 t ≠ s := by
    intro t h1 h2 e
    have := R.wf.mb.rng t h1 h2 (by omega)
    rw [e] at this
    omega
  have hux : u x ≠ frT T := by rw [hnn]; exact fre x hx
  have bah : bhF side = 1 - ah := by unfold bhF; rw [hah]; grind
  have bah2 : ah = 0 ∨ ah = 1 := by rw [hah]; split <;> simp
  first | with_reducible refine Rl.mk ?_ ?_ ?_ ?_ ?_ ?_ ?_ ?_ ?_ ?_ ?_ ?_ ?_ | with_reducible refine Wf.mk ?_ ?_ ?_ ?_ ?_ ?_ ?_ ?_ ?_ ?_ ?_ | with_reducible refine Mb.mk ?_ ?_ ?_ ?_ ?_ | constructor
  · first | with_reducible refine Rl.mk ?_ ?_ ?_ ?_ ?_ ?_ ?_ ?_ ?_ ?_ ?_ ?_ ?_ | with_reducible refine Wf.mk ?_ ?_ ?_ ?_ ?_ ?_ ?_ ?_ ?_ ?_ ?_ | with_reducible refine Mb.mk ?_ ?_ ?_ ?_ ?_ | constructor
    · exact MW
    · intro y h1 h3; rw [e0, if_neg (by omega), if_neg (by omega), if_neg (by omega)]; exact R.wf.pan y h1 h3
    · intro y h1 h3; have := R.wf.grp y h1 h3; rw [e0]; grind
    · intro y h1 h3; have := R.wf.spl y h1 h3; rw [e0]; grind
    · intro y h1 h3 h4 h5
      have ey := e0 y
      have a := R.wf.own y h1 h3
      have ax := R.wf.own x (by omega) (by omega) (by omega)
      left
      by_cases hy1 : y = g
      · rw [if_pos hy1] at ey
        rw [ey, e0, if_neg (by omega), if_neg (by omega), if_pos rfl]
        omega
      · by_cases hy2 : y = x
        · rw [if_neg hy1, if_pos hy2] at ey
          rw [ey, e0, if_neg (by omega), if_neg (by omega), if_pos rfl]
          omega
        · by_cases hy3 : y = s
          · rw [if_neg hy1, if_neg hy2, if_pos hy3] at ey
            rw [ey] at h5 ⊢
            have := ax h5
            rw [e0]
            clear us une fre nsu nos e0 e1 e2 e3 e5 ek
            grind
          · rw [if_neg hy1, if_neg hy2, if_neg hy3] at ey
            rw [ey] at h4 h5 ⊢
            have := a h4 h5
            rw [e0]
            split
            · omega
            · split
              · omega
              · split <;> omega
    · rw [e0, if_neg (by omega), if_neg (by omega), if_neg (by omega)]; exact R.wf.tw
    · rw [e0, if_neg (by omega), if_neg (by omega), if_neg (by omega)]; exact R.wf.ts
    · rw [e2, if_neg (by omega)]; exact R.wf.win
    · intro y h1 h3; rw [e5]; have := R.wf.axs y h1 h3; have := axF_b side; split <;> omega
    · exact Or.inl rfl
    · obtain ⟨r, hr⟩ := R.wf.rank
      refine ⟨fun y => if y = s then 2 * r x + 1 else if y = g then 0 else 2 * r y, fun y h1 h3 h4 h5 => ?_⟩
      rw [e0] at h4 h5 ⊢
      have a := hr y h1 h3
      have b := hr x (by omega) (by omega)
      have c := nos y (by omega) (by omega)
      clear us une fre nsu nos e0 e1 e2 e3 e5 ek hr
      grind
  · exact Or.inl rfl
  · intro y hy
    show 0 ≤ (if y = s then n else u y) ∧ (if y = s then n else u y) < 32
    by_cases z : y = s
    · rw [if_pos z]; exact hf
    · rw [if_neg z]; exact R.rng y (((us y).mp hy).resolve_right z)
  · intro y w hy hw
    have a1 := (us y).mp hy
    have a2 := (us w).mp hw
    show (if y = s then n else u y) = (if w = s then n else u w) → y = w
    by_cases z : y = s
    · by_cases z2 : w = s
      · intro _; rw [z, z2]
      · rw [if_pos z, if_neg z2]; intro e; exact absurd e.symm (fre w (a2.resolve_right z2))
    · by_cases z2 : w = s
      · rw [if_neg z, if_pos z2]; intro e; exact absurd e (fre y (a1.resolve_right z))
      · rw [if_neg z, if_neg z2]; exact R.inj y w (a1.resolve_right z) (a2.resolve_right z2)
  · intro o h1 h3 h4
    rw [prT_0, hnn] at h4
    by_cases z : o = n
    · exact ⟨s, (us s).mpr (Or.inr rfl), by show (if s = s then n else u s) = o; rw [if_pos rfl, z]⟩
    · rw [if_neg z] at h4
      obtain ⟨y, y1, y2⟩ := R.sur o h1 h3 h4
      exact ⟨y, (us y).mpr (Or.inl y1), by show (if y = s then n else u y) = o; rw [if_neg (nsu y y1), y2]⟩
  · intro y hy
    show prT T (u x) (u g) _ ah 0 (if y = s then n else u y) = _
    rw [prT_0, hnn]
    unfold kindL
    by_cases z : y = s
    · rw [if_pos z, if_pos rfl, if_neg (show ¬ y < 32 by omega), e5, if_pos (show y - 32 = s - 32 by omega)]
      unfold axF; grind
    · have hy := ((us y).mp hy).resolve_right z
      have b := hy.1
      rw [if_neg z, if_neg (fre y hy), R.knd y hy]
      unfold kindL
      rw [e0, e5]
      clear us une fre nsu nos e0 e1 e2 e3 e5 ek
      grind
  · intro y hy
    show prT T (u x) (u g) _ ah 1 (if y = s then n else u y) = if _ then (fun y => if y = s then n else u y) (wrapF L x g side 0 y) else -1
    rw [prT_1 hux, hnn]
    by_cases z : y = s
    · have h9 : wrapF L x g side 0 y = L 0 x := by rw [e0, if_neg (by omega), if_neg (by omega), if_pos z]
      rw [h9, if_pos z, if_neg (fun e => fre g ug e.symm), if_neg (fun e => fre x hx e.symm), if_pos rfl, R.par x hx]
      show _ = if 32 ≤ L 0 x ∧ L 0 x < 47 then (if L 0 x = s then n else u (L 0 x)) else -1
      rw [if_neg ehx]
    · have hy := ((us y).mp hy).resolve_right z
      have b := hy.1
      rw [if_neg z]
      by_cases y1 : y = g
      · have h9 : wrapF L x g side 0 y = s := by rw [e0, if_pos y1]
        rw [h9, y1, if_pos rfl, if_pos hs1]
        show n = if s = s then n else u s
        rw [if_pos rfl]
      · rw [if_neg (une y g hy ug y1)]
        by_cases y2 : y = x
        · have h9 : wrapF L x g side 0 y = s := by rw [e0, if_neg y1, if_pos y2]
          rw [h9, y2, if_pos rfl, if_pos hs1]
          show n = if s = s then n else u s
          rw [if_pos rfl]
        · have h9 : wrapF L x g side 0 y = L 0 y := by rw [e0, if_neg y1, if_neg y2, if_neg z]
          rw [h9, if_neg (une y x hy hx y2), if_neg (fre y hy), R.par y hy]
          show _ = if 32 ≤ L 0 y ∧ L 0 y < 47 then (if L 0 y = s then n else u (L 0 y)) else -1
          rw [if_neg (nos y (by omega) (by omega))]
  · intro y hy _
    have b0 := hy.1
    show prT T (u x) (u g) _ ah 2 (if y = s then n else u y) = _
    rw [prT_2 hux, hnn, e1 y (by omega) (by omega)]
    by_cases z : y = s
    · rw [if_pos z, if_neg (fun e => fre g ug e.symm), if_neg (fun e => fre x hx e.symm), if_pos rfl, if_neg (by omega), if_neg (by omega), if_pos z]
      exact R.pos x hx nxg
    · have hy := ((us y).mp hy).resolve_right z
      rw [if_neg z]
      by_cases y1 : y = g
      · rw [if_pos y1, y1, if_pos rfl]; grind
      · rw [if_neg (une y g hy ug y1), if_neg y1]
        by_cases y2 : y = x
        · rw [if_pos y2, y2, if_pos rfl]; grind
        · rw [if_neg (une y x hy hx y2), if_neg y2, if_neg (fre y hy), if_neg z]
          exact R.pos y hy y1
  · intro y hy
    show _ → _ → prT T (u x) (u g) _ ah 3 (if y = s then n else u y) = _
    rw [prT_3 hux, hnn, e3]
    by_cases z : y = s
    · have h9 : wrapF L x g side 0 y = L 0 x := by rw [e0, if_neg (by omega), if_neg (by omega), if_pos z]
      rw [h9, if_pos z, if_neg (fun e => fre g ug e.symm), if_neg (fun e => fre x hx e.symm), if_pos rfl, if_neg (by omega), if_neg (by omega), if_pos z]
      exact R.wt x hx
    · have hy := ((us y).mp hy).resolve_right z
      rw [if_neg z]
      by_cases y1 : y = g
      · rw [if_pos y1, y1, if_pos rfl]; intro _ _; rfl
      · rw [if_neg (une y g hy ug y1), if_neg y1]
        by_cases y2 : y = x
        · rw [if_pos y2, y2, if_pos rfl]; intro _ _; rfl
        · have h9 : wrapF L x g side 0 y = L 0 y := by rw [e0, if_neg y1, if_neg y2, if_neg z]
          rw [h9, if_neg (une y x hy hx y2), if_neg y2, if_neg (fre y hy), if_neg z]
          exact R.wt y hy
  · intro y hy h32
    have z : y ≠ s := by omega
    have hy := ((us y).mp hy).resolve_right z
    show prT T (u x) (u g) _ ah 4 (if y = s then n else u y) = _
    rw [if_neg z, prT_k (by omega), hnn, if_neg (fun e => fre y hy e.2), ek 4 _ (by omega)]
    exact R.act y hy h32
  · intro y hy h48
    have z : y ≠ s := by intro e; rw [e0, e, if_neg (by omega), if_neg (by omega), if_pos rfl] at h48; omega
    have hy := ((us y).mp hy).resolve_right z
    have y1 : y ≠ g := by intro e; rw [e0, if_pos e] at h48; omega
    have y2 : y ≠ x := by intro e; rw [e0, if_neg y1, if_pos e] at h48; omega
    rw [e0, if_neg y1, if_neg y2, if_neg z] at h48
    show prT T (u x) (u g) _ ah 5 (if y = s then n else u y) = _ ∧ prT T (u x) (u g) _ ah 6 (if y = s then n else u y) = _ ∧ prT T (u x) (u g) _ ah 7 (if y = s then n else u y) = _ ∧ prT T (u x) (u g) _ ah 8 (if y = s then n else u y) = _
    rw [if_neg z, prT_k (by omega), prT_k (by omega), prT_k (by omega), prT_k (by omega), hnn, if_neg (fun e => fre y hy e.2), if_neg (fun e => fre y hy e.2), if_neg (fun e => fre y hy e.2), if_neg (fun e => fre y hy e.2), ek 6 _ (by omega), ek 6 _ (by omega), ek 7 _ (by omega), ek 7 _ (by omega)]
    exact R.box y hy h48
  · intro y h1 h3
    have h9 : wrapF L x g side 0 y = L 0 y := by rw [e0, if_neg (by omega), if_neg (by omega), if_neg (by omega)]
    rw [prT_k (by omega), if_neg (by omega), h9, R.pan y h1 h3]
    show _ = if L 0 y = -1 then -1 else (if L 0 y = s then n else u (L 0 y))
    rw [if_neg (nos y h1 (by omega))]
  · intro y h1 h3 h4
    rw [e0, if_neg (by omega), if_neg (by omega), if_neg (by omega)] at h4
    rw [prT_k (by omega), if_neg (by omega), e1 y (by omega) (by omega), if_neg (by omega), if_neg (by omega), if_neg (by omega)]
    exact R.pla y h1 h3 h4
end RL
