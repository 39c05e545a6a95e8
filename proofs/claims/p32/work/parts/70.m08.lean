/-! a new group, that lies nowhere as yet -/
theorem clT_e (T : Mem) (x : Int) (w : Nat) (o : Int) : ∀ m : Nat, clT T x m w o = if w < m ∧ o = x then 0 else T w o
  | 0 => by simp [clT]
  | m + 1 => by
    unfold clT
    rw [up_e, clT_e T x w o m]
    by_cases h : w = m ∧ o = x
    · rw [if_pos h, if_pos ⟨by omega, h.2⟩]
    · rw [if_neg h]
      by_cases h2 : w < m ∧ o = x
      · rw [if_pos h2, if_pos ⟨by omega, h2.2⟩]
      · rw [if_neg h2, if_neg (fun z => by omega)]
theorem nwT_0 {T : Mem} {p k : Int} (o : Int) : nwT T p k 0 o = if o = frT T then k else T 0 o := by
  simp only [nwT, up_e, clT_e]; grind
theorem nwT_1 {T : Mem} {p k : Int} (o : Int) : nwT T p k 1 o = if o = frT T then -1 else T 1 o := by
  simp only [nwT, up_e, clT_e]; grind
theorem nwT_3 {T : Mem} {p k : Int} (o : Int) : nwT T p k 3 o = if o = frT T then 1 else T 3 o := by
  simp only [nwT, up_e, clT_e]; grind
theorem nwT_4 {T : Mem} {p k : Int} (o : Int) : nwT T p k 4 o = if o = frT T then p else T 4 o := by
  simp only [nwT, up_e, clT_e]; grind
theorem nwT_9 {T : Mem} {p k : Int} (o : Int) : nwT T p k 9 o = if o = p then frT T else T 9 o := by
  simp only [nwT, up_e, clT_e]; grind
theorem nwT_10 {T : Mem} {p k : Int} (o : Int) : nwT T p k 10 o = if o = p then 0 else T 10 o := by
  simp only [nwT, up_e, clT_e]; grind
theorem nwT_k {T : Mem} {p k : Int} {w : Nat} (hw : w = 2 ∨ (5 ≤ w ∧ w ≤ 8)) (o : Int) : nwT T p k w o = if o = frT T then 0 else T w o := by
  have h0 : w ≠ 0 := by omega
  have h1 : w ≠ 1 := by omega
  have h3 : w ≠ 3 := by omega
  have h4 : w ≠ 4 := by omega
  have h9 : w ≠ 9 := by omega
  have h10 : w ≠ 10 := by omega
  have h8 : w < 9 := by omega
  simp [nwT, up_e, clT_e, h0, h1, h3, h4, h9, h10, h8]
section RL
variable {u : Int → Int} {L T : Mem} {q kq : Int}
theorem grpF_rows (W : Wf L (-1)) {p : Int} (hp : 0 ≤ p ∧ p < 16) (hg : 16 ≤ unuF L 16 32 ∧ unuF L 16 32 < 32) (h2 : L 2 (unuF L 16 32) = 0) :
    (∀ o : Int, grpF L p 0 o = if o = p then unuF L 16 32 else L 0 o) ∧ (∀ o : Int, grpF L p 1 o = if o = p then 0 else L 1 o) ∧ (∀ o : Int, grpF L p 2 o = if o = unuF L 16 32 then 1 else L 2 o) ∧
    (∀ o : Int, grpF L p 4 o = if o = unuF L 16 32 - 16 then p else L 4 o) ∧ (∀ (k : Nat) (o : Int), k = 3 ∨ 5 ≤ k → grpF L p k o = L k o) := by
  unfold grpF
  generalize unuF L 16 32 = g at *
  have hp' : 0 ≤ p ∧ p < 49 := by omega
  have hg' : 16 ≤ g ∧ g < 49 := by omega
  rw [pL_4 ⟨by omega, by omega⟩]
  refine ⟨fun o => ?_, fun o => ?_, fun o => ?_, fun o => ?_, fun k o hk => ?_⟩
  · rw [up_e, if_neg (by omega), insF_0 hp' hg']
  · have := W.mb.rng o
    rw [up_e, if_neg (by omega), insF_1 hp' hg']
    grind
  · rw [up_e, if_neg (by omega), insF_2 hp' hg']
    grind
  · rw [up_e, insF_k (by omega) hp' hg']
    grind
  · rw [up_e, if_neg (by omega), insF_k (by omega) hp' hg']
theorem Rl.newG (R : Rl u L T (-1) kq) (F : Fu L) {p k : Int} (hp : 0 ≤ p ∧ p < 16) (h : L 0 p = -1) (hk : k = 1 ∨ k = 4) :
    Rl (fun x => if x = unuF L 16 32 then frT T else u x) (grpF L p) (nwT T p k) (unuF L 16 32) k ∧ (16 ≤ unuF L 16 32 ∧ unuF L 16 32 < 32) ∧ L 2 (unuF L 16 32) = 0 ∧ L 0 (unuF L 16 32) = -1 ∧ (0 ≤ frT T ∧ frT T < 32) ∧ T 0 (frT T) = 0 := by
  obtain ⟨hg, h2, hn⟩ := R.wf.freeG F hp h
  obtain ⟨e0, e1, e2, e4, ek⟩ := grpF_rows R.wf hp hg h2
  have sN : spN L ≤ 15 := by
    have := smG_le (fun i => if L 0 (i + 32) = -1 then 0 else 1) 1 15 (fun o _ _ => by show (if L 0 (o + 32) = -1 then (0 : Int) else 1) ≤ 1; split <;> omega)
    have e : smG (fun i => if L 0 (i + 32) = -1 then 0 else 1) 15 = spN L := rfl
    omega
  obtain ⟨hf, hf0⟩ := R.freeN (by omega)
  have fg := F (unuF L 16 32) (by omega) (by omega)
  have mbi := R.wf.mb.ins (t := p) (h := unuF L 16 32) (i := 0) ⟨by omega, by omega⟩ ⟨by omega, by omega⟩ h ⟨by omega, by omega⟩
  have egr : grpF L p = up (insF L p (unuF L 16 32) 0) 4 (unuF L 16 32 - 16) p := by unfold grpF; rw [pL_4 ⟨by omega, by omega⟩]
  generalize unuF L 16 32 = g at *
  generalize hnn : frT T = n at *
  have hg0 : L 0 g = -1 := by
    by_cases z : L 0 g = -1
    · exact z
    · have := fg.2 z; omega
  have us : ∀ x : Int, Us (grpF L p) g x ↔ (Us L (-1) x ∨ x = g) := by
    intro x
    unfold Us
    rw [e0]
    grind
  have ung : ∀ x : Int, Us L (-1) x → x ≠ g := by
    intro x hx e
    have := hx.2
    have := hx.1
    subst e
    omega
  have fre : ∀ x : Int, Us L (-1) x → u x ≠ n := by
    intro x hx e
    have k1 := R.knd x hx
    have ax := R.wf.axs x
    have k9 := R.kk
    have := hx.1
    unfold kindL at k1
    rw [e, hf0] at k1
    grind
  have nrl : ∀ t : Int, 0 ≤ t → t < 49 → L 0 t ≠ g := by
    intro t h1 h3 e
    have := R.wf.mb.rng t h1 h3 (by omega)
    rw [e] at this
    omega
  refine ⟨?_, hg, h2, hg0, hf, hf0⟩
  first | with_reducible refine Rl.mk ?_ ?_ ?_ ?_ ?_ ?_ ?_ ?_ ?_ ?_ ?_ ?_ ?_ | with_reducible refine Wf.mk ?_ ?_ ?_ ?_ ?_ ?_ ?_ ?_ ?_ ?_ ?_ | with_reducible refine Mb.mk ?_ ?_ ?_ ?_ ?_ | constructor
  · first | with_reducible refine Rl.mk ?_ ?_ ?_ ?_ ?_ ?_ ?_ ?_ ?_ ?_ ?_ ?_ ?_ | with_reducible refine Wf.mk ?_ ?_ ?_ ?_ ?_ ?_ ?_ ?_ ?_ ?_ ?_ | with_reducible refine Mb.mk ?_ ?_ ?_ ?_ ?_ | constructor
    · rw [egr]
      obtain ⟨m1, m2, m3, m4, m5⟩ := mbi
      first | with_reducible refine Rl.mk ?_ ?_ ?_ ?_ ?_ ?_ ?_ ?_ ?_ ?_ ?_ ?_ ?_ | with_reducible refine Wf.mk ?_ ?_ ?_ ?_ ?_ ?_ ?_ ?_ ?_ ?_ ?_ | with_reducible refine Mb.mk ?_ ?_ ?_ ?_ ?_ | constructor
      all_goals simpa [up]
    · intro x h1 h3; have := R.wf.pan x h1 h3; rw [e0]; grind
    · intro x h1 h3; have := R.wf.grp x h1 h3; rw [e0]; grind
    · intro x h1 h3; have := R.wf.spl x h1 h3; rw [e0]; grind
    · intro x h1 h3 h4 h5
      rw [e0] at h4 h5
      have ex : grpF L p 0 x = if x = p then g else L 0 x := e0 x
      by_cases hx : x = p
      · rw [if_pos hx] at ex; exact Or.inr ex
      · rw [if_neg hx] at ex h4 h5
        have a := R.wf.own x h1 h3 h4 h5
        have b := R.wf.mb.hol x h1 h3
        left
        rw [ex, e0, if_neg (by omega)]
        omega
    · rw [e0, if_neg (by omega)]; exact R.wf.tw
    · rw [e0, if_neg (by omega)]; exact R.wf.ts
    · rw [e2, if_neg (by omega)]; exact R.wf.win
    · intro x h1 h3; rw [ek 5 _ (by omega)]; exact R.wf.axs x h1 h3
    · right; rw [e0, if_neg (by omega)]; exact ⟨hg.1, hg.2, hg0⟩
    · obtain ⟨r, hr⟩ := R.wf.rank
      refine ⟨r, fun x h1 h3 h4 h5 => ?_⟩
      rw [e0, if_neg (by omega)] at h4 h5 ⊢
      exact hr x h1 h3 h4 h5
  · exact hk
  · intro x hx
    by_cases z : x = g
    · simp only [z, if_pos]; exact hf
    · simp only [if_neg z]; exact R.rng x (((us x).mp hx).resolve_right z)
  · intro x y hx hy
    have a1 := (us x).mp hx
    have a2 := (us y).mp hy
    by_cases z : x = g
    · by_cases z2 : y = g
      · intro _; rw [z, z2]
      · simp only [if_pos z, if_neg z2]
        intro e
        exact absurd e.symm (fre y (a2.resolve_right z2))
    · by_cases z2 : y = g
      · simp only [if_neg z, if_pos z2]
        intro e
        exact absurd e (fre x (a1.resolve_right z))
      · simp only [if_neg z, if_neg z2]
        exact R.inj x y (a1.resolve_right z) (a2.resolve_right z2)
  · intro o h1 h3 h4
    rw [nwT_0, hnn] at h4
    by_cases z : o = n
    · exact ⟨g, (us g).mpr (Or.inr rfl), by simp [z]⟩
    · rw [if_neg z] at h4
      obtain ⟨x, x1, x2⟩ := R.sur o h1 h3 h4
      exact ⟨x, (us x).mpr (Or.inl x1), by rw [if_neg (ung x x1)]; exact x2⟩
  · intro x hx
    rw [nwT_0, hnn]
    by_cases z : x = g
    · simp only [z, if_pos]
      unfold kindL
      rw [if_pos hg.2, if_pos rfl]
    · have hx := ((us x).mp hx).resolve_right z
      have b := hx.1
      rw [if_neg z, if_neg (fre x hx), R.knd x hx]
      unfold kindL
      rw [e0, if_neg (show x ≠ p by omega), ek 5 _ (by omega)]
      grind
  · intro x hx
    rw [nwT_1, hnn, e0]
    by_cases z : x = g
    · simp only [z, if_pos]
      rw [if_neg (show g ≠ p by omega), if_neg (by omega)]
    · have hx := ((us x).mp hx).resolve_right z
      have b := hx.1
      rw [if_neg z, if_neg (fre x hx), R.par x hx, if_neg (show x ≠ p by omega), if_neg (nrl x (by omega) (by omega))]
  · intro x hx hq
    have hx := ((us x).mp hx).resolve_right hq
    have b := hx.1
    rw [nwT_k (by omega), hnn, if_neg hq, if_neg (fre x hx), R.pos x hx (by omega), e1, if_neg (by omega)]
  · intro x hx
    rw [nwT_3, hnn, e0, ek 3 _ (by omega)]
    by_cases z : x = g
    · subst z
      rw [if_neg (show x ≠ p by omega)]
      intro h1; omega
    · have hx := ((us x).mp hx).resolve_right z
      have b := hx.1
      rw [if_neg z, if_neg (fre x hx), if_neg (show x ≠ p by omega)]
      exact R.wt x hx
  · intro x hx h32
    rw [nwT_4, hnn, e4]
    by_cases z : x = g
    · simp only [z, if_pos]
    · have hx := ((us x).mp hx).resolve_right z
      rw [if_neg z, if_neg (fre x hx), if_neg (show ¬ x - 16 = g - 16 by omega)]
      exact R.act x hx h32
  · intro x hx
    rw [e0]
    by_cases z : x = g
    · subst z
      rw [if_neg (show x ≠ p by omega)]
      intro h1; omega
    · have hx := ((us x).mp hx).resolve_right z
      have b := hx.1
      rw [if_neg (show x ≠ p by omega), if_neg z, nwT_k (by omega), nwT_k (by omega), nwT_k (by omega), nwT_k (by omega), hnn, if_neg (fre x hx), if_neg (fre x hx), if_neg (fre x hx), if_neg (fre x hx), ek 6 _ (by omega), ek 6 _ (by omega), ek 7 _ (by omega), ek 7 _ (by omega)]
      exact R.box x hx
  · intro x h1 h3
    rw [nwT_9, hnn, e0]
    by_cases z : x = p
    · rw [if_pos z, if_pos z, if_neg (by omega), if_pos rfl]
    · rw [if_neg z, if_neg z, if_neg (nrl x h1 (by omega))]
      exact R.pan x h1 h3
  · intro x h1 h3 h4
    rw [e0] at h4
    rw [nwT_10, e1]
    by_cases z : x = p
    · rw [if_pos z, if_pos z]
    · rw [if_neg z] at h4
      rw [if_neg z, if_neg z]
      exact R.pla x h1 h3 h4
end RL
