/-! THE REFERENCE: all boxes -/
theorem lgZ_k {mu T Z : Mem} {r : Nat} {g i : Int} {k : Nat} (h7 : k ≠ 7) (h8 : k ≠ 8) : lgZ mu r T Z g k i = Z k i := by unfold lgZ; rw [up_a _ _ _ _ h8, up_a _ _ _ _ h7]
theorem lsZ_k {T Z : Mem} {g i : Int} {k : Nat} (h7 : k ≠ 7) (h8 : k ≠ 8) : lsZ T Z g k i = Z k i := by unfold lsZ; rw [up_a _ _ _ _ h8, up_a _ _ _ _ h7]
theorem lgZ_R {mu T Z : Mem} {r : Nat} (hR : R32 mu) (h : R32Z Z) (g : Int) : R32Z (lgZ mu r T Z g) := (h.upd 7 g (gmG_R (fun i => hR _ _) T g _)).upd 8 g (wr_b _)
theorem lsZ_R {T Z : Mem} (h : R32Z Z) (g : Int) : R32Z (lsZ T Z g) := (h.upd 7 g (wr_b _)).upd 8 g (wr_b _)
/-- the least sizes, from the last node of the queue on -/
def leG (mu : Mem) (r : Nat) (T : Mem) : Nat → Mem → Mem
  | 0, Z => Z
  | a + 1, Z => leG mu r T a (if spT T (Z 6 a) = 1 then lsZ T Z (Z 6 a) else lgZ mu r T Z (Z 6 a))
theorem leG_k (mu : Mem) (r : Nat) (T : Mem) {k : Nat} (h7 : k ≠ 7) (h8 : k ≠ 8) (i : Int) : ∀ (a : Nat) (Z : Mem), leG mu r T a Z k i = Z k i
  | 0, Z => rfl
  | a + 1, Z => by
    rw [leG, leG_k mu r T h7 h8 i a]
    split
    · exact lsZ_k h7 h8
    · exact lgZ_k h7 h8
theorem leG_R {mu : Mem} (hR : R32 mu) (r : Nat) (T : Mem) : ∀ (a : Nat) {Z : Mem}, R32Z Z → R32Z (leG mu r T a Z)
  | 0, Z, h => h
  | a + 1, Z, h => by
    rw [leG]
    split
    · exact leG_R hR r T a (lsZ_R h _)
    · exact leG_R hR r T a (lgZ_R hR h _)
def rbZ (Z : Mem) (w h : Int) : Mem := up (up (up (up Z 9 (Z 6 0) 0) 10 (Z 6 0) 0) 11 (Z 6 0) w) 12 (Z 6 0) h
def bsT (T : Mem) (x : Int) : Int := if T 0 x = 2 then 1 else 0
def bcA (Z : Mem) (x c b g : Int) : Mem := up Z 9 c (wr (Z 9 x + (if b = 1 then g else 0)))
def bcB (Z : Mem) (x c b g : Int) : Mem := up (bcA Z x c b g) 10 c (wr (bcA Z x c b g 10 x + (if b = 1 then 0 else g)))
def bcC (Z : Mem) (x c b g k : Int) : Mem := up (bcB Z x c b g) 11 c (if b = 1 then bcB Z x c b g 14 k else bcB Z x c b g 11 x)
def bcD (Z : Mem) (x c b g k : Int) : Mem := up (bcC Z x c b g k) 12 c (if b = 1 then bcC Z x c b g k 12 x else bcC Z x c b g k 14 k)
/-- the children's boxes -/
def bcG (T : Mem) (x b : Int) : Nat → Int → Int → Mem → Mem
  | 0, _, _, Z => Z
  | d + 1, k, g, Z => bcG T x b d (k + 1) (g + (bcD Z x (chT T x k) b g k 14 k + 1)) (bcD Z x (chT T x k) b g k)
def bxS (T Z : Mem) (x : Int) : Mem :=
  if spT T x = 1 then bcG T x (bsT T x) (kdT T x).toNat 0 0 (shZ T (up Z 13 x 0) x (exF T (up Z 13 x 0) x x)) else up Z 13 x 0
def bxG (T : Mem) : Nat → Int → Mem → Mem
  | 0, _, Z => Z
  | d + 1, a, Z => bxG T d (a + 1) (bxS T Z (Z 6 a))
def okB (T : Mem) : Nat → Int → Mem → Prop
  | 0, _, _ => True
  | d + 1, a, Z => (spT T (Z 6 a) = 1 → okS T (up Z 13 (Z 6 a) 0) (Z 6 a) (exF T (up Z 13 (Z 6 a) 0) (Z 6 a) (Z 6 a))) ∧ okB T d (a + 1) (bxS T Z (Z 6 a))
def ftP (T Z : Mem) (j : Int) : Mem := fun w i => if (9 ≤ w ∧ w ≤ 12) ∧ 0 ≤ i ∧ i < j ∧ T 0 i = 4 then T (w - 4) i else Z w i
def rtZ (q : Int) (Z : Mem) (w h : Int) : Mem := if 0 < q then rbZ Z w h else Z
def la1 (mu : Mem) (r : Nat) (T Z : Mem) (w h : Int) : Mem := rtZ (quT T Z).1 (leG mu r T (quT T Z).1.toNat (quT T Z).2) w h
def laZ (mu : Mem) (r : Nat) (T Z : Mem) (w h : Int) : Mem := ftP T (bxG T (quT T Z).1.toNat 0 (la1 mu r T Z w h)) 32
theorem bcD_R {Z : Mem} (h : R32Z Z) (x c b g k : Int) : R32Z (bcA Z x c b g) ∧ R32Z (bcB Z x c b g) ∧ R32Z (bcC Z x c b g k) ∧ R32Z (bcD Z x c b g k) := by
  have h1 : R32Z (bcA Z x c b g) := h.upd 9 c (wr_b _)
  have h2 : R32Z (bcB Z x c b g) := h1.upd 10 c (wr_b _)
  have h3 : R32Z (bcC Z x c b g k) := h2.upd 11 c (by split; exact h2 14 k (by decide); exact h2 11 x (by decide))
  have h4 : R32Z (bcD Z x c b g k) := h3.upd 12 c (by split; exact h3 12 x (by decide); exact h3 14 k (by decide))
  exact ⟨h1, h2, h3, h4⟩
theorem bcG_R (T : Mem) (x b : Int) : ∀ (d : Nat) (k g : Int) {Z : Mem}, R32Z Z → R32Z (bcG T x b d k g Z)
  | 0, _, _, Z, h => h
  | d + 1, k, g, Z, h => bcG_R T x b d _ _ (bcD_R h _ _ _ _ _).2.2.2
theorem bcD_k {Z : Mem} {x c b g k i : Int} {w : Nat} (h : w < 9 ∨ 12 < w) : bcD Z x c b g k w i = Z w i := by
  unfold bcD bcC bcB bcA
  rw [up_a _ _ _ _ (by omega), up_a _ _ _ _ (by omega), up_a _ _ _ _ (by omega), up_a _ _ _ _ (by omega)]
theorem bcG_k (T : Mem) (x b : Int) {w : Nat} (h : w < 9 ∨ 12 < w) (i : Int) : ∀ (d : Nat) (k g : Int) (Z : Mem), bcG T x b d k g Z w i = Z w i
  | 0, _, _, Z => rfl
  | d + 1, k, g, Z => by rw [bcG, bcG_k T x b h i d, bcD_k h]
theorem frG_6 {T : Mem} {s : Int} {m : Nat} {a : Int} {w : Nat} (h : w ≠ 14) (h5 : w ≠ 15) (i : Int) : ∀ (d : Nat) (Z : Mem), (frG T s m a d Z).1 w i = Z w i
  | 0, Z => rfl
  | d + 1, Z => by
    have e : frS T Z s m a w i = Z w i := by unfold frS; rw [fxP_k _ _ _ _ _ _ _ h h5, f1P_k _ _ _ h5]
    rw [frG]
    split
    · exact e
    · rw [frG_6 h h5 i d, e]
theorem hwG_k {w : Nat} (h : w ≠ 14) (i : Int) : ∀ (d : Nat) (k lf : Int) (Z : Mem), hwG d k lf Z w i = Z w i
  | 0, _, _, Z => rfl
  | d + 1, k, lf, Z => by
    rw [hwG]
    split
    · rw [hwG_k h i d, up_a _ _ _ _ h]
    · rfl
theorem shZ_k {T Z : Mem} {s c i : Int} {w : Nat} (h13 : w ≠ 13) (h14 : w ≠ 14) (h15 : w ≠ 15) : shZ T Z s c w i = Z w i := by
  unfold shZ
  split
  · unfold sfZ sfF
    rw [hwG_k h14, frG_6 h14 h15, f0P_k _ _ _ h15]
    unfold tgZ
    rw [up_a _ _ _ _ h13]
  · unfold inP
    rw [if_neg (by omega), shL_k _ _ _ _ _ _ _ h14]
    unfold tgZ
    rw [up_a _ _ _ _ h13]
theorem bxS_6 (T Z : Mem) (x i : Int) : bxS T Z x 6 i = Z 6 i := by
  unfold bxS
  split
  · rw [bcG_k _ _ _ (by decide), shZ_k (by decide) (by decide) (by decide), up_a _ _ _ _ (by decide)]
  · rw [up_a _ _ _ _ (by decide)]
theorem bxS_R {T Z : Mem} {x : Int} (h : R32Z Z) (ho : spT T x = 1 → okS T (up Z 13 x 0) x (exF T (up Z 13 x 0) x x)) : R32Z (bxS T Z x) := by
  have h1 : R32Z (up Z 13 x 0) := h.upd 13 x (by omega)
  unfold bxS
  split
  · rename_i z
    exact bcG_R T x _ _ _ _ (shZ_R h1 (ho z))
  · exact h1
theorem qiG_6 (T : Mem) (h : Int) (hc : ∀ k, 0 ≤ k ∧ k < qmF T h → 0 ≤ chT T h k) : ∀ (e : Nat) (k : Int) (y : Int × Mem), k + e = qmF T h → 0 ≤ k → (∀ i, 0 ≤ i ∧ i < y.1 → 0 ≤ y.2 6 i ∧ y.2 6 i < 32) → ∀ i, 0 ≤ i ∧ i < (qiG T h e k y).1 → 0 ≤ (qiG T h e k y).2 6 i ∧ (qiG T h e k y).2 6 i < 32
  | 0, k, y, h1, h2, h3 => h3
  | e + 1, k, y, h1, h2, h3 => by
    rw [qiG]
    refine qiG_6 T h hc e (k + 1) _ (by omega) (by omega) fun i hi => ?_
    have hi : 0 ≤ i ∧ i < y.1 + 1 := hi
    show 0 ≤ up y.2 6 y.1 (chT T h k) 6 i ∧ up y.2 6 y.1 (chT T h k) 6 i < 32
    by_cases hi2 : i = y.1
    · subst hi2
      rw [up_s]
      have := chT_b T h k
      have := hc k (by omega)
      omega
    · rw [up_i _ _ _ hi2]
      exact h3 i (by omega)
theorem qmF_c {T : Mem} (hS : SO T) {h : Int} (hh : 0 ≤ h ∧ h < 32) : ∀ k, 0 ≤ k ∧ k < qmF T h → 0 ≤ chT T h k := by
  intro k hk
  unfold qmF at hk
  split at hk
  · rename_i zz; exact (hS h hh zz).2 k hk
  · omega
theorem quG_6 {T : Mem} (hS : SO T) : ∀ (d : Nat) (a : Int) (x : Int × Mem), 0 ≤ a → (∀ i, 0 ≤ i ∧ i < x.1 → 0 ≤ x.2 6 i ∧ x.2 6 i < 32) → ∀ i, 0 ≤ i ∧ i < (quG T d a x).1 → 0 ≤ (quG T d a x).2 6 i ∧ (quG T d a x).2 6 i < 32
  | 0, a, x, _, h => h
  | d + 1, a, x, ha, h => by
    rw [quG]
    split
    · rename_i z
      have hb := qmF_b T (x.2 6 a)
      exact quG_6 hS d (a + 1) _ (by omega) (qiG_6 T _ (qmF_c hS (h a ⟨ha, z⟩)) _ 0 x (by omega) (by omega) h)
    · exact h
theorem quT_6 {T Z : Mem} (hS : SO T) : ∀ i, 0 ≤ i ∧ i < (quT T Z).1 → 0 ≤ (quT T Z).2 6 i ∧ (quT T Z).2 6 i < 32 := by
  unfold quT
  split
  · intro i hi
    have hi : 0 ≤ i ∧ i < 0 := hi
    omega
  · rename_i z
    have br := rtT_b T
    refine quG_6 hS 33 0 _ (by omega) fun i hi => ?_
    have hi : 0 ≤ i ∧ i < 1 := hi
    show 0 ≤ up Z 6 0 (rtT T) 6 i ∧ up Z 6 0 (rtT T) 6 i < 32
    rw [show i = 0 by omega, up_s]
    omega
theorem qiG_R (T : Mem) (h : Int) : ∀ (e : Nat) (k : Int) (y : Int × Mem), R32Z y.2 → R32Z (qiG T h e k y).2
  | 0, k, y, h3 => h3
  | e + 1, k, y, h3 => by
    rw [qiG]
    refine qiG_R T h e (k + 1) _ (h3.upd 6 y.1 ?_)
    have := chT_b T h k
    omega
theorem quG_R (T : Mem) : ∀ (d : Nat) (a : Int) (x : Int × Mem), R32Z x.2 → R32Z (quG T d a x).2
  | 0, a, x, h => h
  | d + 1, a, x, h => by
    rw [quG]
    split
    · exact quG_R T d _ _ (qiG_R T _ _ _ _ h)
    · exact h
theorem quT_R {T Z : Mem} (h : R32Z Z) : R32Z (quT T Z).2 := by
  unfold quT
  split
  · exact h
  · refine quG_R T _ _ _ (h.upd 6 0 ?_)
    have := rtT_b T
    omega
theorem bxG_R {T : Mem} : ∀ (d : Nat) (a : Int) {Z : Mem}, R32Z Z → okB T d a Z → R32Z (bxG T d a Z)
  | 0, _, Z, h, _ => h
  | d + 1, a, Z, h, ho => by
    rw [bxG]
    exact bxG_R d _ (bxS_R h ho.1) ho.2
theorem la1_R {mu : Mem} {r : Nat} {T Z : Mem} (hR : R32 mu) (h : R32Z Z) {w k : Int} (hw : -2147483648 ≤ w ∧ w ≤ 2147483647) (hk : -2147483648 ≤ k ∧ k ≤ 2147483647) : R32Z (la1 mu r T Z w k) := by
  unfold la1 rtZ
  have h1 := leG_R hR r T (quT T Z).1.toNat (quT_R (T := T) h)
  split
  · exact (((h1.upd 9 _ (by omega)).upd 10 _ (by omega)).upd 11 _ hw).upd 12 _ hk
  · exact h1
theorem ftP_0 (T Z : Mem) : ftP T Z 0 = Z := by funext w i; unfold ftP; rw [if_neg (by omega)]
theorem ftP_no {T Z : Mem} {j : Int} (h : ¬ T 0 j = 4) : ftP T Z (j + 1) = ftP T Z j := by
  funext w i
  unfold ftP
  by_cases hi : i = j
  · subst hi; rw [if_neg (by omega), if_neg (by omega)]
  · by_cases c : (9 ≤ w ∧ w ≤ 12) ∧ 0 ≤ i ∧ i < j ∧ T 0 i = 4
    · rw [if_pos c, if_pos (by omega)]
    · rw [if_neg c, if_neg (by omega)]
theorem ftP_yes {T Z : Mem} {j : Int} (hj : 0 ≤ j) (h : T 0 j = 4) : up (up (up (up (ftP T Z j) 9 j (T 5 j)) 10 j (T 6 j)) 11 j (T 7 j)) 12 j (T 8 j) = ftP T Z (j + 1) := by
  funext w i
  rw [up_e, up_e, up_e, up_e]
  unfold ftP
  by_cases hi : i = j
  · subst hi
    by_cases c : 9 ≤ w ∧ w ≤ 12
    · rw [if_pos (show (9 ≤ w ∧ w ≤ 12) ∧ 0 ≤ i ∧ i < i + 1 ∧ T 0 i = 4 from ⟨c, hj, by omega, h⟩)]
      have hw : w = 9 ∨ w = 10 ∨ w = 11 ∨ w = 12 := by omega
      rcases hw with rfl | rfl | rfl | rfl <;> simp
    · rw [if_neg (by omega), if_neg (by omega), if_neg (by omega), if_neg (by omega), if_neg (by omega), if_neg (by omega)]
  · rw [if_neg (by omega), if_neg (by omega), if_neg (by omega), if_neg (by omega)]
    by_cases c : (9 ≤ w ∧ w ≤ 12) ∧ 0 ≤ i ∧ i < j ∧ T 0 i = 4
    · rw [if_pos c, if_pos (by omega)]
    · rw [if_neg c, if_neg (by omega)]
