/-! the new group comes in: beside others, or with a new split -/
theorem jP_row (mu : Mem) (w : Nat) (t k we gr j : Int) : jP mu w t k we gr (w + 1) j = if j < 3 * t then mu (w + 1) j else if j = 3 * t then k else if j = 3 * t + 1 then we else if j = 3 * t + 2 then gr else if j < 3 * mu w 3 + 3 then mu (w + 1) (j - 3) else mu (w + 1) j := by
  unfold jP
  rw [if_pos rfl]
theorem tk_facts {N : Int} {L T : Mem} {P p : Int} (B : LR N L T P) (hp : 0 ≤ p ∧ p < P) (hP : P ≤ 16) : (∀ x : Int, 0 ≤ x → x < 16 → tkF L p 0 x = if x = p then -1 else L 0 x) ∧ (∀ x : Int, 16 ≤ x → x < 47 → tkF L p 0 x ≠ -1 → (tkF L p 0 x = 48 ↔ L 0 x = 48)) := by
  obtain ⟨u, R⟩ := B.rl
  obtain ⟨-, -, a, -, b⟩ := R.take B.fu hp hP B.cl
  exact ⟨a, b⟩
section PU
variable {m : Mem} {w : Nat} {M : Mem} {P g : Int}
theorem put_e (A : Lr m w M P g) (T : Tw M) (hg : 16 ≤ g ∧ g < 32) (g0 : M 0 g = -1) (p5 : P ≤ 5) {o c : Int → Int} (S : Sg M (m w 3) (m (w + 1)) o c) {x pt i wt : Int} (hx : Tn M x) (x32 : 32 ≤ x) (hi : 0 ≤ i ∧ i ≤ M 2 x) (n1 : 1 ≤ M 2 x) (hpt : pt = if i < M 2 x then o (mbrF M x i) else c x) :
    Lr (jP m w pt 1 wt (g - 16)) w (up (insF M g x i) 3 g wt) P (-1) := by
  have xl := hx.1
  have hg' : 0 ≤ g ∧ g < 49 := by omega
  have hx' : 16 ≤ x ∧ x < 49 := by omega
  have i0 := fun y => insF_0 (L := M) (i := i) hg' hx' y
  have i1 := fun y => insF_1 (L := M) (i := i) hg' hx' y
  have i2 := fun y => insF_2 (L := M) (i := i) hg' hx' y
  have ik := fun k (hk : 3 ≤ k) y => insF_k (L := M) (i := i) (k := k) hk hg' hx' y
  have u3 : ∀ (k : Nat) (y : Int), k ≠ 3 → up (insF M g x i) 3 g wt k y = insF M g x i k y := fun k y hk => up_a _ _ _ _ hk
  have S' : Sg (up (insF M g x i) 3 g wt) (m w 3 + 1) (jP m w pt 1 wt (g - 16) (w + 1)) (fun y => if y = g then pt else sh1 pt (o y)) (fun y => if y = g then pt else sh1 pt (c y)) := by
    refine S.put (wt := wt) T hg g0 hx x32 hi n1 hpt (fun y _ _ => ?_) (fun y y1 y2 => ?_) (fun y _ _ => ?_) (fun y _ _ => ?_) (fun y _ _ => ?_) (fun j j1 j2 => ?_)
    · rw [u3 _ _ (by omega), i0]
    · rw [u3 _ _ (by omega), i1]
      by_cases a : y = g
      · rw [if_pos a, if_pos a]
      · rw [if_neg a, if_neg a]
        by_cases b : M 0 y = x ∧ i ≤ M 1 y
        · rw [if_pos ⟨⟨by omega, by omega⟩, b⟩, if_pos b]
        · rw [if_neg (fun q => b q.2), if_neg b]
    · rw [u3 _ _ (by omega), i2]
      by_cases a : y = x
      · rw [if_pos a, if_pos a, a]
      · rw [if_neg a, if_neg a]
    · rw [up_e]
      by_cases a : y = g
      · rw [if_pos ⟨rfl, a⟩, if_pos a]
      · rw [if_neg (fun q => a q.2), if_neg a, ik 3 (by omega)]
    · rw [u3 _ _ (by omega), ik 5 (by omega)]
    · rw [jP_row]
      by_cases a1 : j < 3 * pt
      · rw [if_pos a1, if_pos a1]
      · rw [if_neg a1, if_neg a1]
        by_cases a2 : j = 3 * pt
        · rw [if_pos a2, if_pos a2]
        · rw [if_neg a2, if_neg a2]
          by_cases a3 : j = 3 * pt + 1
          · rw [if_pos a3, if_pos a3]
          · rw [if_neg a3, if_neg a3]
            by_cases a4 : j = 3 * pt + 2
            · rw [if_pos a4, if_pos a4]
            · rw [if_neg a4, if_neg a4, if_pos (by omega)]
  refine Lr_tree A ⟨_, _, by rw [jP_3]; exact S'⟩ (fun a i h1 h2 => jP_x _ _ _ _ _ _ ⟨h1, h2⟩) (fun k h1 h2 => ?_) (fun k h1 h2 h3 => ?_) (fun v h1 h2 h3 => ?_) (fun i => ?_) ?_ (fun t h1 h2 h3 => ?_)
  · rw [u3 _ _ (by omega), i0, if_neg (by omega)]
  · rw [u3 _ _ (by omega), i1, if_neg (by omega), if_neg (fun q => by
      have := T.mem k (by omega) (by omega) (by omega) (by omega)
      have := this.1
      omega)]
  · rw [u3 _ _ (by omega), i0] at h3
    by_cases z : v = g
    · exact Or.inr z
    · rw [if_neg z] at h3
      exact Or.inl (by omega)
  · rw [u3 _ _ (by omega), ik 4 (by omega)]
  · rw [u3 _ _ (by omega), i2, if_neg (by omega)]
  · rw [u3 _ _ (by omega), i0] at h3
    by_cases z : t = g
    · rw [if_pos z] at h3; omega
    · rw [if_neg z] at h3
      exact ⟨h3, by rw [u3 _ _ (by omega), i1, if_neg z, if_neg (fun q => by omega)]⟩
theorem wrap_e (A : Lr m w M P g) (W : Wf M g) (hg : 16 ≤ g ∧ g < 32) (g0 : M 0 g = -1) (p5 : P ≤ 5) {o c : Int → Int} (S : Sg M (m w 3) (m (w + 1)) o c) {x s side : Int} (hx : Tn M x) (hsd : 0 ≤ side ∧ side ≤ 3) (hs : unuF M 32 47 = s) (hs1 : 32 ≤ s ∧ s < 47) (s2 : M 2 s = 0) (s0 : M 0 s = -1) {m' : Mem}
    (m3 : m' w 3 = m w 3 + 3) (rx : ∀ (a : Nat) (i : Int), a ≠ w + 1 → (a ≠ w ∨ i ≠ 3) → m' a i = m a i)
    (q1 : ∀ v r : Int, 0 ≤ v → v < m w 3 → 0 ≤ r → r ≤ 2 → m' (w + 1) (3 * w3 (o x) (c x) (side % 2) v + r) = if v = o x ∧ r = 1 then 1 else m (w + 1) (3 * v + r))
    (q2 : m' (w + 1) (3 * o x) = 2 + side / 2) (q2' : M 0 x ≠ 47 → m' (w + 1) (3 * o x + 1) = m (w + 1) (3 * o x + 1))
    (q3 : m' (w + 1) (3 * (if side % 2 = 0 then o x + 1 else c x + 2)) = 1 ∧ m' (w + 1) (3 * (if side % 2 = 0 then o x + 1 else c x + 2) + 1) = 1 ∧ m' (w + 1) (3 * (if side % 2 = 0 then o x + 1 else c x + 2) + 2) = g - 16)
    (q4 : m' (w + 1) (3 * (c x + 3)) = 4) : Lr m' w (wrapF M x g side) P (-1) := by
  have T := W.tw9
  have hl := T.hol x hx
  have xl := hx.1
  obtain ⟨r0, r1, r2, r3, r5, rk, -⟩ := wrapF_rows W (side := side) hs hs1 s2 s0 hg.1 hx.1 (by omega)
  have eb : bhF side = side % 2 := by unfold bhF; split <;> omega
  have ea : axF side = side / 2 := by unfold axF; split <;> omega
  rw [eb] at r1
  rw [ea] at r5
  have nxg : x ≠ g := fun q => hx.2.1 (by rw [q]; exact g0)
  have nxs : x ≠ s := fun q => hx.2.1 (by rw [q]; exact s0)
  have nsx : s ≠ x := fun q => nxs q.symm
  have nsg : s ≠ g := by omega
  have ngx : g ≠ x := fun q => nxg q.symm
  have ngs : g ≠ s := by omega
  have S' : Sg (wrapF M x g side) (m w 3 + 3) (m' (w + 1)) (wO o c x s g (side % 2)) (wC o c x s g (side % 2)) := by
    refine S.wrp T hx hs1 s0 s2 hg g0 (by omega) (kd := 2 + side / 2) (by omega) (fun y _ _ => ?_) (fun y y1 y2 => ?_) (fun y _ _ => r2 y) (fun y _ _ => ?_) (fun y _ _ => ?_) q1 q2 q2' q3 q4
    · rw [r0]
      by_cases a : y = s
      · rw [a, if_neg nsg, if_neg nsx, if_pos rfl, if_pos rfl]
      · rw [if_neg a, if_neg a]
        by_cases b : y = g
        · rw [if_pos b, if_pos (Or.inr b)]
        · rw [if_neg b]
          by_cases d : y = x
          · rw [if_pos d, if_pos (Or.inl d)]
          · rw [if_neg d, if_neg (fun q => q.elim d b)]
    · rw [r1 y (by omega) (by omega)]
      by_cases a : y = s
      · rw [a, if_neg nsg, if_neg nsx, if_pos rfl, if_pos rfl]
      · rw [if_neg a, if_neg a]
        by_cases b : y = g
        · rw [b, if_pos rfl, if_neg ngx, if_pos rfl]
        · rw [if_neg b, if_neg b]
          by_cases d : y = x
          · rw [if_pos d, if_pos d]
            split <;> omega
          · rw [if_neg d, if_neg d]
    · rw [r3]
      by_cases a : y = s
      · rw [a, if_neg nsg, if_neg nsx, if_pos rfl, if_pos rfl]
      · rw [if_neg a, if_neg a]
        by_cases b : y = g
        · rw [if_pos b, if_pos (Or.inr b)]
        · rw [if_neg b]
          by_cases d : y = x
          · rw [if_pos d, if_pos (Or.inl d)]
          · rw [if_neg d, if_neg (fun q => q.elim d b)]
    · rw [r5]
      by_cases a : y = s - 32
      · rw [if_pos a, if_pos a]; omega
      · rw [if_neg a, if_neg a]
  refine Lr_tree A ⟨_, _, by rw [m3]; exact S'⟩ rx (fun k h1 h2 => ?_) (fun k h1 h2 h3 => ?_) (fun v h1 h2 h3 => ?_) (fun i => rk 4 i (by omega)) ?_ (fun t h1 h2 h3 => ?_)
  · rw [r0, if_neg (by omega), if_neg (by omega), if_neg (by omega)]
  · rw [r1 k h1 (by omega), if_neg (by omega), if_neg (by omega), if_neg (by omega)]
  · rw [r0] at h3
    by_cases z : v = g
    · exact Or.inr z
    · rw [if_neg z] at h3
      by_cases y : v = x
      · rw [y]; exact Or.inl hx.2.1
      · rw [if_neg y, if_neg (by omega)] at h3
        exact Or.inl (by omega)
  · rw [r2, if_neg (by omega)]
  · rw [r0] at h3
    by_cases z : t = g
    · rw [if_pos z] at h3; omega
    · rw [if_neg z] at h3
      by_cases y : t = x
      · rw [if_pos y] at h3; omega
      · rw [if_neg y] at h3
        by_cases v : t = s
        · rw [if_pos v] at h3
          exact absurd h3 hx.2.2
        · rw [if_neg v] at h3
          exact ⟨h3, by rw [r1 t (by omega) (by omega), if_neg z, if_neg y, if_neg v]⟩
end PU
