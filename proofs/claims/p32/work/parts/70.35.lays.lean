/-! THE REFERENCE: what follows from a tree. Rows 6 .. 15 are a memory Z; q is the length of the queue. -/
def I64 (x : Int) : Int64 := Int64.ofInt x
def zM (mu : Mem) (r : Nat) (q : Int) (Z : Mem) : Mem := fun a i => if r + 6 ≤ a ∧ a ≤ r + 15 then Z (a - r) i else if a = r ∧ i = 9 then q else mu a i
abbrev lyM (mu : Mem) (r : Nat) (T : Mem) (q : Int) (Z : Mem) : Mem := ptT (zM mu r q Z) r T
def zOf (mu : Mem) (r : Nat) : Mem := fun k i => mu (r + k) i
theorem zM_k {mu T Z : Mem} {r k : Nat} {q i : Int} (hk : 6 ≤ k ∧ k ≤ 15) : lyM mu r T q Z (r + k) i = Z k i := by
  rw [lyM, pt_a (by omega)]; unfold zM
  rw [if_pos (by omega), show r + k - r = k by omega]
theorem zM_q {mu T Z : Mem} {r : Nat} {q : Int} : lyM mu r T q Z r 9 = q := by
  rw [lyM, pt_r]; unfold zM
  rw [if_neg (by omega), if_pos ⟨rfl, rfl⟩]
theorem zM_1 {mu T Z : Mem} {r : Nat} {q i : Int} (hi : i < 35 ∨ 355 ≤ i) : lyM mu r T q Z (r + 1) i = mu (r + 1) i := by
  rw [lyM, pt_lo hi]; unfold zM
  rw [if_neg (by omega), if_neg (by omega)]
theorem zM_b {mu Z : Mem} {r : Nat} {q i : Int} : zM mu r q Z (r + 1) i = mu (r + 1) i := by
  unfold zM
  rw [if_neg (by omega), if_neg (by omega)]
theorem zMu_k {mu T Z : Mem} {r k : Nat} {q i v : Int} (hk : 6 ≤ k ∧ k ≤ 15) : up (lyM mu r T q Z) (r + k) i v = lyM mu r T q (up Z k i v) := by
  rw [lyM, ptu_a (by omega)]
  congr 1
  funext a j
  unfold up zM
  try dsimp only
  by_cases h : a = r + k ∧ j = i
  · rw [if_pos h, if_pos (by omega), if_pos (by omega)]
  · rw [if_neg h]
    by_cases h2 : r + 6 ≤ a ∧ a ≤ r + 15
    · rw [if_pos h2, if_pos h2, if_neg (by omega)]
    · rw [if_neg h2, if_neg h2]
theorem zMu_q {mu T Z : Mem} {r : Nat} {q v : Int} : up (lyM mu r T q Z) r 9 v = lyM mu r T v Z := by
  rw [lyM, ptu_r]
  congr 1
  funext a j
  unfold up zM
  try dsimp only
  by_cases h : a = r ∧ j = 9
  · rw [if_pos h, if_neg (by omega), if_pos h]
  · rw [if_neg h]
    by_cases h2 : r + 6 ≤ a ∧ a ≤ r + 15
    · rw [if_pos h2, if_pos h2]
    · rw [if_neg h2, if_neg h2, if_neg h, if_neg h]
theorem lyM_self (mu : Mem) (r : Nat) : lyM mu r (trT mu r) (mu r 9) (zOf mu r) = mu := by
  rw [lyM, show zM mu r (mu r 9) (zOf mu r) = mu by
    funext a j
    unfold zM zOf
    split
    · congr 1; omega
    · split
      · rename_i h; rw [h.1, h.2]
      · rfl]
  exact pt_self mu r
def R32Z (Z : Mem) : Prop := ∀ k i, 6 ≤ k ∧ k ≤ 15 → -2147483648 ≤ Z k i ∧ Z k i ≤ 2147483647
theorem R32Z.upd {Z : Mem} (h : R32Z Z) (k : Nat) (i : Int) {v : Int} (hv : -2147483648 ≤ v ∧ v ≤ 2147483647) : R32Z (up Z k i v) := fun a j ha => by
  unfold up
  split
  · exact hv
  · exact h a j ha
/-- children are where they must be -/
def SO (T : Mem) : Prop := ∀ h, 0 ≤ h ∧ h < 32 → spT T h = 1 → kdT T h ≤ 16 ∧ ∀ k, 0 ≤ k ∧ k < kdT T h → 0 ≤ chT T h k
def qiG (T : Mem) (h : Int) : Nat → Int → Int × Mem → Int × Mem
  | 0, _, x => x
  | d + 1, k, x => qiG T h d (k + 1) (x.1 + 1, up x.2 6 x.1 (chT T h k))
def qmF (T : Mem) (h : Int) : Int := if spT T h = 1 then kdT T h else 0
def quG (T : Mem) : Nat → Int → Int × Mem → Int × Mem
  | 0, _, x => x
  | d + 1, a, x => if a < x.1 then quG T d (a + 1) (qiG T (x.2 6 a) (qmF T (x.2 6 a)).toNat 0 x) else x
def quT (T Z : Mem) : Int × Mem := if rtT T = -1 then (0, Z) else quG T 33 0 (1, up Z 6 0 (rtT T))
theorem qmF_b (T : Mem) (h : Int) : 0 ≤ qmF T h ∧ qmF T h ≤ 32 := by
  have := kdT_b T h
  unfold qmF; split <;> omega
theorem qiG_1 (T : Mem) (h : Int) : ∀ (d : Nat) (k : Int) (x : Int × Mem), (qiG T h d k x).1 = x.1 + d
  | 0, k, x => by simp [qiG]
  | d + 1, k, x => by rw [qiG, qiG_1 T h d]; simp only []; omega
theorem quG_1 (T : Mem) : ∀ (d : Nat) (a : Int) (x : Int × Mem), x.1 ≤ (quG T d a x).1
  | 0, a, x => by simp [quG]
  | d + 1, a, x => by
    rw [quG]
    split
    · have h1 := quG_1 T d (a + 1) (qiG T (x.2 6 a) (qmF T (x.2 6 a)).toNat 0 x)
      rw [qiG_1] at h1
      omega
    · omega
section M6
variable {G : Gx} {l : Launch} {S : Sh} {n : Nat} {mu T Z : Mem} {la : Lam} {r : Nat}
theorem MoS.k {S : Sh} {r : Nat} (hM : MoS S r) {k : Nat} (hk : 6 ≤ k ∧ k ≤ 13) : hasS S (r + k) (.inl (0, 32)) := hM.2.2.2.2.2.2.1 k hk
/-- the greatest of f's values at the panes of a group -/
def gmG (f : Int → Int) (T : Mem) (g : Int) : Nat → Int
  | 0 => 0
  | m + 1 => if T 9 m = g then (if gmG f T g m < f m then f m else gmG f T g m) else gmG f T g m
def mmG (f : Int → Int) : Nat → Int
  | 0 => 0
  | m + 1 => if mmG f m < f m then f m else mmG f m
def leR (mu : Mem) (r : Nat) (w : Int) : Int → Int := fun p => mu (r + 1) (3 + 2 * p + w)
def lgZ (mu : Mem) (r : Nat) (T Z : Mem) (g : Int) : Mem :=
  up (up Z 7 g (gmG (leR mu r 0) T g (mu (r + 1) 2).toNat)) 8 g (wr (gmG (leR mu r 1) T g (mu (r + 1) 2).toNat + 1))
theorem gmG_R {f : Int → Int} (hf : ∀ i, -2147483648 ≤ f i ∧ f i ≤ 2147483647) (T : Mem) (g : Int) : ∀ m, -2147483648 ≤ gmG f T g m ∧ gmG f T g m ≤ 2147483647
  | 0 => by simp [gmG]
  | m + 1 => by
    have := gmG_R hf T g m
    have := hf m
    rw [gmG]
    (repeat' split) <;> omega
theorem mmG_R {f : Int → Int} (m : Nat) (hf : ∀ i : Nat, i < m → -2147483648 ≤ f i ∧ f i ≤ 2147483647) : -2147483648 ≤ mmG f m ∧ mmG f m ≤ 2147483647 := by
  induction m with
  | zero => simp [mmG]
  | succ m ih =>
    have := ih (fun i hi => hf i (by omega))
    have := hf m (by omega)
    rw [mmG]
    split <;> omega
end M6
