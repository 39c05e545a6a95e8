/-! THE REFERENCE: what follows from a tree. Rows 6 .. 15 are a memory Z; q is the length of the queue. -/
def I64 (x : Int) : Int64 := Int64.ofInt x
def zM (mu : Mem) (r : Nat) (q : Int) (Z : Mem) : Mem := fun a i => if r + 6 ≤ a ∧ a ≤ r + 15 then Z (a - r) i else if a = r ∧ i = 9 then q else mu a i
abbrev lyM (mu : Mem) (r : Nat) (T : Mem) (q : Int) (Z : Mem) : Mem := ptT (zM mu r q Z) r T
def zOf (mu : Mem) (r : Nat) : Mem := fun k i => mu (r + k) i
theorem zM_k {mu T Z : Mem} {r k : Nat} {q i : Int} (hk : 6 ≤ k ∧ k ≤ 15) : lyM mu r T q Z (r + k) i = Z k i := by
  rw [lyM, pt_a (by omega)]; unfold zM
  rw [if_pos (by omega), show r + k - r = k by omega]
theorem zM_q {mu T Z : Mem} {r : Nat} {q : Int} : lyM mu r T q Z r 9 = q := by
  rw [lyM, pt_r]; unfold zM
  rw [if_neg (by omega), if_pos ⟨rfl, rfl⟩]
theorem zM_1 {mu T Z : Mem} {r : Nat} {q i : Int} (hi : i < 35 ∨ 355 ≤ i) : lyM mu r T q Z (r + 1) i = mu (r + 1) i := by
  rw [lyM, pt_lo hi]; unfold zM
  rw [if_neg (by omega), if_neg (by omega)]
theorem zM_b {mu Z : Mem} {r : Nat} {q i : Int} : zM mu r q Z (r + 1) i = mu (r + 1) i := by
  unfold zM
  rw [if_neg (by omega), if_neg (by omega)]
theorem zMu_k {mu T Z : Mem} {r k : Nat} {q i v : Int} (hk : 6 ≤ k ∧ k ≤ 15) : up (lyM mu r T q Z) (r + k) i v = lyM mu r T q (up Z k i v) := by
  rw [lyM, ptu_a (by omega)]
  congr 1
  funext a j
  unfold up zM
  try dsimp only
  by_cases h : a = r + k ∧ j = i
  · rw [if_pos h, if_pos (by omega), if_pos (by omega)]
  · rw [if_neg h]
    by_cases h2 : r + 6 ≤ a ∧ a ≤ r + 15
    · rw [if_pos h2, if_pos h2, if_neg (by omega)]
    · rw [if_neg h2, if_neg h2]
theorem zMu_q {mu T Z : Mem} {r : Nat} {q v : Int} : up (lyM mu r T q Z) r 9 v = lyM mu r T v Z := by
  rw [lyM, ptu_r]
  congr 1
  funext a j
  unfold up zM
  try dsimp only
  by_cases h : a = r ∧ j = 9
  · rw [if_pos h, if_neg (by omega), if_pos h]
  · rw [if_neg h]
    by_cases h2 : r + 6 ≤ a ∧ a ≤ r + 15
    · rw [if_pos h2, if_pos h2]
    · rw [if_neg h2, if_neg h2, if_neg h, if_neg h]
theorem lyM_self (mu : Mem) (r : Nat) : lyM mu r (trT mu r) (mu r 9) (zOf mu r) = mu := by
  rw [lyM, show zM mu r (mu r 9) (zOf mu r) = mu by
    funext a j
    unfold zM zOf
    split
    · congr 1; omega
    · split
      · rename_i h; rw [h.1, h.2]
      · rfl]
  exact pt_self mu r
def R32Z (Z : Mem) : Prop := ∀ k i, 6 ≤ k ∧ k ≤ 15 → -2147483648 ≤ Z k i ∧ Z k i ≤ 2147483647
theorem R32Z.upd {Z : Mem} (h : R32Z Z) (k : Nat) (i : Int) {v : Int} (hv : -2147483648 ≤ v ∧ v ≤ 2147483647) : R32Z (up Z k i v) := fun a j ha => by
  unfold up
  split
  · exact hv
  · exact h a j ha
/-- children are where they must be -/
def SO (T : Mem) : Prop := ∀ h, 0 ≤ h ∧ h < 32 → spT T h = 1 → kdT T h ≤ 16 ∧ ∀ k, 0 ≤ k ∧ k < kdT T h → 0 ≤ chT T h k
def qiG (T : Mem) (h : Int) : Nat → Int → Int × Mem → Int × Mem
  | 0, _, x => x
  | d + 1, k, x => qiG T h d (k + 1) (x.1 + 1, up x.2 6 x.1 (chT T h k))
def qmF (T : Mem) (h : Int) : Int := if spT T h = 1 then kdT T h else 0
def quG (T : Mem) : Nat → Int → Int × Mem → Int × Mem
  | 0, _, x => x
  | d + 1, a, x => if a < x.1 then quG T d (a + 1) (qiG T (x.2 6 a) (qmF T (x.2 6 a)).toNat 0 x) else x
def quT (T Z : Mem) : Int × Mem := if rtT T = -1 then (0, Z) else quG T 33 0 (1, up Z 6 0 (rtT T))
theorem qmF_b (T : Mem) (h : Int) : 0 ≤ qmF T h ∧ qmF T h ≤ 32 := by
  have := kdT_b T h
  unfold qmF; split <;> omega
theorem qiG_1 (T : Mem) (h : Int) : ∀ (d : Nat) (k : Int) (x : Int × Mem), (qiG T h d k x).1 = x.1 + d
  | 0, k, x => by simp [qiG]
  | d + 1, k, x => by rw [qiG, qiG_1 T h d]; simp only []; omega
theorem quG_1 (T : Mem) : ∀ (d : Nat) (a : Int) (x : Int × Mem), x.1 ≤ (quG T d a x).1
  | 0, a, x => by simp [quG]
  | d + 1, a, x => by
    rw [quG]
    split
    · have h1 := quG_1 T d (a + 1) (qiG T (x.2 6 a) (qmF T (x.2 6 a)).toNat 0 x)
      rw [qiG_1] at h1
      omega
    · omega
section M6
variable {G : Gx} {l : Launch} {S : Sh} {n : Nat} {mu T Z : Mem} {la : Lam} {r : Nat}
theorem MoS.k {S : Sh} {r : Nat} (hM : MoS S r) {k : Nat} (hk : 6 ≤ k ∧ k ≤ 13) : hasS S (r + k) (.inl (0, 32)) := hM.2.2.2.2.2.2.1 k hk
set_option maxRecDepth 20000 in
theorem ggX9_queues_X9_root : GoodIn wsX9_queues wsX9_root := goodIn_r _ [7, 8, 9, 10, 6, 11, 12, 13, 14, 15, 28, 29, 30, 31, 32, 33, 34, 35, 36, 37, 38, 39, 40, 41, 42, 43, 44, 45, 46, 47, 48, 49, 50, 51] (by decide +kernel) (by decide +kernel)
set_option maxRecDepth 20000 in
theorem gX9_queues_X9_root : GoodIn wsX9_queues (wsV RX9 94 RX9 yX9_root wsX9_root) := goodIn_app (goodIn_of _ (by decide +kernel)) ggX9_queues_X9_root
set_option maxRecDepth 20000 in
theorem ggX9_queues_X9_isSplit : GoodIn wsX9_queues wsX9_isSplit := goodIn_r _ [19, 8, 9, 10, 6, 11, 12, 28, 29, 30, 31, 32, 33, 34, 35, 36, 37, 38, 39, 40, 41, 42, 43, 44, 45, 46, 47, 48, 49, 50, 51] (by decide +kernel) (by decide +kernel)
set_option maxRecDepth 20000 in
theorem gX9_queues_X9_isSplit : GoodIn wsX9_queues (wsV RX9 98 RX9 yX9_isSplit wsX9_isSplit) := goodIn_app (goodIn_of _ (by decide +kernel)) ggX9_queues_X9_isSplit
set_option maxRecDepth 20000 in
theorem ggX9_queues_X9_children : GoodIn wsX9_queues wsX9_children := goodIn_r _ [23, 8, 9, 10, 6, 11, 12, 13, 14, 15, 28, 29, 30, 31, 32, 33, 34, 35, 36, 37, 38, 39, 40, 41, 42, 43, 44, 45, 46, 47, 48, 49, 50, 51] (by decide +kernel) (by decide +kernel)
set_option maxRecDepth 20000 in
theorem gX9_queues_X9_children : GoodIn wsX9_queues (wsV RX9 102 RX9 yX9_children wsX9_children) := goodIn_app (goodIn_of _ (by decide +kernel)) ggX9_queues_X9_children
set_option maxRecDepth 20000 in
theorem ggX9_queues_X9_child : GoodIn wsX9_queues wsX9_child := goodIn_r _ [27, 8, 9, 10, 6, 11, 12, 13, 14, 15, 28, 29, 30, 31, 32, 33, 34, 35, 36, 37, 38, 39, 40, 41, 42, 43, 44, 45, 46, 47, 48, 49, 50, 51] (by decide +kernel) (by decide +kernel)
set_option maxRecDepth 20000 in
theorem gX9_queues_X9_child : GoodIn wsX9_queues (wsV RX9 105 RX9 yX9_child wsX9_child) := goodIn_app (goodIn_of _ (by decide +kernel)) ggX9_queues_X9_child
theorem dX9_queues_0 : decode cX9_queues 0 = .ok (.aload_n 0, 1) := by decide +kernel
theorem dX9_queues_1 : decode cX9_queues 1 = .ok (.iconst 0, 1) := by decide +kernel
theorem dX9_queues_2 : decode cX9_queues 2 = .ok (.putfield 91, 3) := by decide +kernel
theorem dX9_queues_5 : decode cX9_queues 5 = .ok (.aload_n 0, 1) := by decide +kernel
theorem dX9_queues_6 : decode cX9_queues 6 = .ok (.invokevirtual 94, 3) := by decide +kernel
theorem dX9_queues_9 : decode cX9_queues 9 = .ok (.istore_n 1, 1) := by decide +kernel
theorem dX9_queues_10 : decode cX9_queues 10 = .ok (.iload_n 1, 1) := by decide +kernel
theorem dX9_queues_11 : decode cX9_queues 11 = .ok (.iconst (-1), 1) := by decide +kernel
theorem dX9_queues_12 : decode cX9_queues 12 = .ok (.if_icmp .ne 4, 3) := by decide +kernel
theorem dX9_queues_15 : decode cX9_queues 15 = .ok (.return_, 1) := by decide +kernel
theorem dX9_queues_16 : decode cX9_queues 16 = .ok (.aload_n 0, 1) := by decide +kernel
theorem dX9_queues_17 : decode cX9_queues 17 = .ok (.getfield 25, 3) := by decide +kernel
theorem dX9_queues_20 : decode cX9_queues 20 = .ok (.iconst 0, 1) := by decide +kernel
theorem dX9_queues_21 : decode cX9_queues 21 = .ok (.iload_n 1, 1) := by decide +kernel
theorem dX9_queues_22 : decode cX9_queues 22 = .ok (.iastore, 1) := by decide +kernel
theorem dX9_queues_23 : decode cX9_queues 23 = .ok (.aload_n 0, 1) := by decide +kernel
theorem dX9_queues_24 : decode cX9_queues 24 = .ok (.iconst 1, 1) := by decide +kernel
theorem dX9_queues_25 : decode cX9_queues 25 = .ok (.putfield 91, 3) := by decide +kernel
theorem dX9_queues_28 : decode cX9_queues 28 = .ok (.iconst 0, 1) := by decide +kernel
theorem dX9_queues_29 : decode cX9_queues 29 = .ok (.istore_n 2, 1) := by decide +kernel
theorem dX9_queues_30 : decode cX9_queues 30 = .ok (.iload_n 2, 1) := by decide +kernel
theorem dX9_queues_31 : decode cX9_queues 31 = .ok (.aload_n 0, 1) := by decide +kernel
theorem dX9_queues_32 : decode cX9_queues 32 = .ok (.getfield 91, 3) := by decide +kernel
theorem dX9_queues_35 : decode cX9_queues 35 = .ok (.if_icmp .ge 83, 3) := by decide +kernel
theorem dX9_queues_38 : decode cX9_queues 38 = .ok (.aload_n 0, 1) := by decide +kernel
theorem dX9_queues_39 : decode cX9_queues 39 = .ok (.aload_n 0, 1) := by decide +kernel
theorem dX9_queues_40 : decode cX9_queues 40 = .ok (.getfield 25, 3) := by decide +kernel
theorem dX9_queues_43 : decode cX9_queues 43 = .ok (.iload_n 2, 1) := by decide +kernel
theorem dX9_queues_44 : decode cX9_queues 44 = .ok (.iaload, 1) := by decide +kernel
theorem dX9_queues_45 : decode cX9_queues 45 = .ok (.invokevirtual 98, 3) := by decide +kernel
theorem dX9_queues_48 : decode cX9_queues 48 = .ok (.ifCond .eq 16, 3) := by decide +kernel
theorem dX9_queues_51 : decode cX9_queues 51 = .ok (.aload_n 0, 1) := by decide +kernel
theorem dX9_queues_52 : decode cX9_queues 52 = .ok (.aload_n 0, 1) := by decide +kernel
theorem dX9_queues_53 : decode cX9_queues 53 = .ok (.getfield 25, 3) := by decide +kernel
theorem dX9_queues_56 : decode cX9_queues 56 = .ok (.iload_n 2, 1) := by decide +kernel
theorem dX9_queues_57 : decode cX9_queues 57 = .ok (.iaload, 1) := by decide +kernel
theorem dX9_queues_58 : decode cX9_queues 58 = .ok (.invokevirtual 102, 3) := by decide +kernel
theorem dX9_queues_61 : decode cX9_queues 61 = .ok (.goto 4, 3) := by decide +kernel
theorem dX9_queues_64 : decode cX9_queues 64 = .ok (.iconst 0, 1) := by decide +kernel
theorem dX9_queues_65 : decode cX9_queues 65 = .ok (.istore_n 3, 1) := by decide +kernel
theorem dX9_queues_66 : decode cX9_queues 66 = .ok (.iconst 0, 1) := by decide +kernel
theorem dX9_queues_67 : decode cX9_queues 67 = .ok (.istore 4, 2) := by decide +kernel
theorem dX9_queues_69 : decode cX9_queues 69 = .ok (.iload 4, 2) := by decide +kernel
theorem dX9_queues_71 : decode cX9_queues 71 = .ok (.iload_n 3, 1) := by decide +kernel
theorem dX9_queues_72 : decode cX9_queues 72 = .ok (.if_icmp .ge 40, 3) := by decide +kernel
theorem dX9_queues_75 : decode cX9_queues 75 = .ok (.aload_n 0, 1) := by decide +kernel
theorem dX9_queues_76 : decode cX9_queues 76 = .ok (.getfield 25, 3) := by decide +kernel
theorem dX9_queues_79 : decode cX9_queues 79 = .ok (.aload_n 0, 1) := by decide +kernel
theorem dX9_queues_80 : decode cX9_queues 80 = .ok (.getfield 91, 3) := by decide +kernel
theorem dX9_queues_83 : decode cX9_queues 83 = .ok (.aload_n 0, 1) := by decide +kernel
theorem dX9_queues_84 : decode cX9_queues 84 = .ok (.aload_n 0, 1) := by decide +kernel
theorem dX9_queues_85 : decode cX9_queues 85 = .ok (.getfield 25, 3) := by decide +kernel
theorem dX9_queues_88 : decode cX9_queues 88 = .ok (.iload_n 2, 1) := by decide +kernel
theorem dX9_queues_89 : decode cX9_queues 89 = .ok (.iaload, 1) := by decide +kernel
theorem dX9_queues_90 : decode cX9_queues 90 = .ok (.iload 4, 2) := by decide +kernel
theorem dX9_queues_92 : decode cX9_queues 92 = .ok (.invokevirtual 105, 3) := by decide +kernel
theorem dX9_queues_95 : decode cX9_queues 95 = .ok (.iastore, 1) := by decide +kernel
theorem dX9_queues_96 : decode cX9_queues 96 = .ok (.aload_n 0, 1) := by decide +kernel
theorem dX9_queues_97 : decode cX9_queues 97 = .ok (.dup, 1) := by decide +kernel
theorem dX9_queues_98 : decode cX9_queues 98 = .ok (.getfield 91, 3) := by decide +kernel
theorem dX9_queues_101 : decode cX9_queues 101 = .ok (.iconst 1, 1) := by decide +kernel
theorem dX9_queues_102 : decode cX9_queues 102 = .ok (.iadd, 1) := by decide +kernel
theorem dX9_queues_103 : decode cX9_queues 103 = .ok (.putfield 91, 3) := by decide +kernel
theorem dX9_queues_106 : decode cX9_queues 106 = .ok (.iinc 4 1, 3) := by decide +kernel
theorem dX9_queues_109 : decode cX9_queues 109 = .ok (.goto (-40), 3) := by decide +kernel
theorem dX9_queues_112 : decode cX9_queues 112 = .ok (.iinc 2 1, 3) := by decide +kernel
theorem dX9_queues_115 : decode cX9_queues 115 = .ok (.goto (-85), 3) := by decide +kernel
theorem dX9_queues_118 : decode cX9_queues 118 = .ok (.return_, 1) := by decide +kernel
theorem hin_X9_queues_X9 : ∀ w ∈ wsX90, w ∈ wsX9_queues := by decide +kernel
theorem lk_X9_queues_91 : Cond.fieldLink RX9 91 RX9 "queued" "I" ∈ wsX9_queues := by decide +kernel
theorem lk_X9_queues_25 : Cond.fieldLink RX9 25 RX9 "queue" "[I" ∈ wsX9_queues := by decide +kernel
theorem m_queues (hG : GP G) (hM : MoS S r) {N : Int} (hB : TB N T) (hN : N ≤ 1073740000) (hS : SO T) (hq : (quT T Z).1 ≤ 32) {q0 : Int} : Ct G l yX9_queues wsX9_queues 2 0 0 [.ref r] S n (lyM mu r T q0 Z) la (Dt none S n (lyM mu r T (quT T Z).1 (quT T Z).2) la) := by
  have o9 := hM.1
  have br := rtT_b T
  unfold quT at hq ⊢
  refine Ct.ofV (cc := cX9_queues) (nL := 5) (ret := none) [some (.ref r), none, none, none, none] hG (by decide) rfl (Nat.le_of_ble_eq_true rfl) rfl ?_
  rintro X rfl rfl C hcl hsl E
  refine V_aload_n C dX9_queues_0 rfl ?_
  refine V_iconst C dX9_queues_1 ?_
  refine V_putJ C 9 9 rfl dX9_queues_2 o9 rfl hin_X9_queues_X9 tyX9 tyX9_ok nmX9 (by decide) lk_X9_queues_91 rfl rfl (by decide +kernel) rfl (zMu_q) ?_
  refine V_aload_n C dX9_queues_5 rfl ?_
  refine V_callVD (nA := 0) C dX9_queues_6 (m_root C.gp hM hB (by omega)) gX9_queues_X9_root rfl o9 rfl (by decide +kernel) rfl (by decide) (by decide) (Nat.le_of_ble_eq_true rfl) ⟨by omega, by omega⟩ rfl ?_
  refine V_istore_n C dX9_queues_9 rfl (by decide) ?_
  refine V_iload_n C dX9_queues_10 rfl ?_
  refine V_iconst C dX9_queues_11 ?_
  refine V_icmp_ne C 16 dX9_queues_12 (by decide) (by omega) (by omega) (fun z0 => ?_) (fun z0 => ?_)
  · rw [if_neg z0] at hq E
    generalize eR : quG T 33 0 (1, up Z 6 0 (rtT T)) = R at hq E
    have outer : ∀ (d : Nat) (a : Int) (x : Int × Mem) (w3 w4 : Option Value), a + d = 33 → 0 ≤ a → a ≤ x.1 → (∀ i, 0 ≤ i ∧ i < x.1 → 0 ≤ x.2 6 i ∧ x.2 6 i < 32) → quG T d a x = R → V X 30 [some (.ref r), some (.int (I32 (rtT T))), some (.int (I32 a)), w3, w4] [] S n (lyM mu r T x.1 x.2) la 0 0 := by
      intro d
      induction d with
      | zero =>
        intro a x w3 w4 h1 h2 h3 h4 h5
        have h5 : R = x := h5.symm
        subst h5
        omega
      | succ d ih =>
        intro a x w3 w4 h1 h2 h3 h4 h5
        have hx1 : x.1 ≤ 32 := by have := quG_1 T (d + 1) a x; rw [h5] at this; omega
        rw [quG] at h5
        refine V_iload_n C dX9_queues_30 rfl ?_
        refine V_aload_n C dX9_queues_31 rfl ?_
        refine V_getJ C 9 9 rfl dX9_queues_32 o9 rfl hin_X9_queues_X9 (by decide) lk_X9_queues_91 rfl rfl (zM_q) ?_
        refine V_icmp_ge C 118 dX9_queues_35 (by decide) (by omega) (by omega) (fun z1 => ?_) (fun z1 => ?_)
        · rw [if_neg (by omega)] at h5
          subst h5
          refine V_return C E dX9_queues_118 (by omega) (by omega) ?_
          exact Dt_rfl
        · rw [if_pos (by omega)] at h5
          have ha := h4 a (by omega)
          have hq2 : (qiG T (x.2 6 a) (qmF T (x.2 6 a)).toNat 0 x).1 ≤ 32 := by have := quG_1 T d (a + 1) (qiG T (x.2 6 a) (qmF T (x.2 6 a)).toNat 0 x); rw [h5] at this; omega
          have bs := spT_b T (x.2 6 a)
          have bk := kdT_b T (x.2 6 a)
          have bm := qmF_b T (x.2 6 a)
          have ih9 := ih (a + 1) (qiG T (x.2 6 a) (qmF T (x.2 6 a)).toNat 0 x)
          have hSa : spT T (x.2 6 a) = 1 → _ := hS (x.2 6 a) ha
          generalize eh : x.2 6 a = h at ha h5 hq2 bs bk bm ih9 hSa
          generalize eQ : qiG T h (qmF T h).toNat 0 x = Q at h5 hq2 ih9
          have hc : ∀ k, 0 ≤ k ∧ k < qmF T h → 0 ≤ chT T h k := by
            intro k hk
            unfold qmF at hk
            split at hk
            · rename_i zz; exact (hSa zz).2 k hk
            · omega
          have inner : ∀ (e : Nat) (k : Int) (y : Int × Mem), k + e = qmF T h → 0 ≤ k → a < y.1 → y.1 = x.1 + k → y.2 6 a = h → (∀ i, 0 ≤ i ∧ i < y.1 → 0 ≤ y.2 6 i ∧ y.2 6 i < 32) → qiG T h e k y = Q → V X 69 [some (.ref r), some (.int (I32 (rtT T))), some (.int (I32 a)), some (.int (I32 (qmF T h))), some (.int (I32 k))] [] S n (lyM mu r T y.1 y.2) la 0 0 := by
            intro e
            induction e with
            | zero =>
              intro k y k1 k2 k3 k3' k4 k5 k6
              have k6 : Q = y := k6.symm
              subst k6
              refine V_iload C dX9_queues_69 rfl ?_
              refine V_iload_n C dX9_queues_71 rfl ?_
              refine V_icmp_ge C 112 dX9_queues_72 (by decide) (by omega) (by omega) (fun z2 => ?_) (fun z2 => ?_)
              · refine V_iinc C dX9_queues_112 rfl rfl (by decide) ?_
                refine V_goto C 30 dX9_queues_115 (by decide) ?_
                exact ih9 _ _ (by omega) (by omega) (by omega) k5 h5
              · exact absurd z2 (by omega)
            | succ e ihe =>
              intro k y k1 k2 k3 k3' k4 k5 k6
              have hy1 : y.1 ≤ 31 := by
                have := qiG_1 T h (e + 1) k y
                rw [k6] at this
                omega
              rw [qiG] at k6
              have bc := chT_b T h k
              have hck := hc k (by omega)
              refine V_iload C dX9_queues_69 rfl ?_
              refine V_iload_n C dX9_queues_71 rfl ?_
              refine V_icmp_ge C 112 dX9_queues_72 (by decide) (by omega) (by omega) (fun z2 => ?_) (fun z2 => ?_)
              · exact absurd z2 (by omega)
              · refine V_aload_n C dX9_queues_75 rfl ?_
                refine V_getR C 8 dX9_queues_76 o9 rfl hin_X9_queues_X9 (by decide) lk_X9_queues_25 rfl rfl ?_
                refine V_aload_n C dX9_queues_79 rfl ?_
                refine V_getJ C 9 9 rfl dX9_queues_80 o9 rfl hin_X9_queues_X9 (by decide) lk_X9_queues_91 rfl rfl (zM_q) ?_
                refine V_aload_n C dX9_queues_83 rfl ?_
                refine V_aload_n C dX9_queues_84 rfl ?_
                refine V_getR C 8 dX9_queues_85 o9 rfl hin_X9_queues_X9 (by decide) lk_X9_queues_25 rfl rfl ?_
                refine V_iload_n C dX9_queues_88 rfl ?_
                refine V_ialdJ C dX9_queues_89 (hM.k ⟨by decide, by decide⟩) (by decide) (by omega) (x := h) (by rw [zM_k (by decide)]; exact k4) ?_
                refine V_iload C dX9_queues_90 rfl ?_
                refine V_callVD (nA := 2) C dX9_queues_92 (m_child C.gp hM hB (by omega) (by omega) (by omega)) gX9_queues_X9_child rfl o9 rfl (by decide +kernel) rfl (by decide) (by decide) (Nat.le_of_ble_eq_true rfl) ⟨by omega, by omega⟩ rfl ?_
                refine V_iastJ C dX9_queues_95 (hM.k ⟨by decide,by decide⟩) (by first | assumption | decide) (by omega) (zMu_k (by decide)) ?_
                refine V_aload_n C dX9_queues_96 rfl ?_
                refine V_dup C dX9_queues_97 rfl ?_
                refine V_getJ C 9 9 rfl dX9_queues_98 o9 rfl hin_X9_queues_X9 (by decide) lk_X9_queues_91 rfl rfl (zM_q) ?_
                refine V_iconst C dX9_queues_101 ?_
                refine V_iadd C dX9_queues_102 ?_
                refine V_putJ C 9 9 rfl dX9_queues_103 o9 rfl hin_X9_queues_X9 tyX9 tyX9_ok nmX9 (by decide) lk_X9_queues_91 rfl rfl (by decide +kernel) rfl (zMu_q) ?_
                refine V_iinc C dX9_queues_106 rfl rfl (by decide) ?_
                refine V_goto C 69 dX9_queues_109 (by decide) ?_
                refine ihe (k + 1) (y.1 + 1, up y.2 6 y.1 (chT T h k)) (by omega) (by omega) (by show a < y.1 + 1; omega) (by show y.1 + 1 = x.1 + (k + 1); omega) ?_ ?_ k6
                · show up y.2 6 y.1 (chT T h k) 6 a = h
                  rw [up_i _ _ _ (by omega)]; exact k4
                · intro i hi
                  show 0 ≤ up y.2 6 y.1 (chT T h k) 6 i ∧ up y.2 6 y.1 (chT T h k) 6 i < 32
                  by_cases hi2 : i = y.1
                  · subst hi2; rw [up_s]; omega
                  · rw [up_i _ _ _ hi2]; exact k5 i ⟨hi.1, by have := hi.2; dsimp only at this; omega⟩
          have go : V X 65 [some (.ref r), some (.int (I32 (rtT T))), some (.int (I32 a)), w3, w4] [.int (I32 (qmF T h))] S n (lyM mu r T x.1 x.2) la 0 0 := by
            refine V_istore_n C dX9_queues_65 rfl (by decide) ?_
            refine V_iconst C dX9_queues_66 ?_
            refine V_istore C dX9_queues_67 rfl (by decide) ?_
            exact inner (qmF T h).toNat 0 x (by omega) (by omega) (by omega) (by omega) eh h4 eQ
          have e6 : lyM mu r T x.1 x.2 (r + 6) a = h := by rw [zM_k (by decide)]; exact eh
          refine V_aload_n C dX9_queues_38 rfl ?_
          refine V_aload_n C dX9_queues_39 rfl ?_
          refine V_getR C 8 dX9_queues_40 o9 rfl hin_X9_queues_X9 (by decide) lk_X9_queues_25 rfl rfl ?_
          refine V_iload_n C dX9_queues_43 rfl ?_
          refine V_ialdJ C dX9_queues_44 (hM.k ⟨by decide,by decide⟩) (by first | assumption | decide) (by omega) e6 ?_
          refine V_callVD (nA := 1) C dX9_queues_45 (m_isSplit C.gp hM hB (by omega) ha) gX9_queues_X9_isSplit rfl o9 rfl (by decide +kernel) rfl (by decide) (by decide) (Nat.le_of_ble_eq_true rfl) ⟨by omega, by omega⟩ rfl ?_
          refine V_if_eq C 64 dX9_queues_48 (by decide) (by omega) (fun z2 => ?_) (fun z2 => ?_)
          · rw [show qmF T h = 0 by unfold qmF; rw [if_neg (by omega)]] at go
            refine V_iconst C dX9_queues_64 ?_
            exact go
          · rw [show qmF T h = kdT T h by unfold qmF; rw [if_pos (by omega)]] at go
            refine V_aload_n C dX9_queues_51 rfl ?_
            refine V_aload_n C dX9_queues_52 rfl ?_
            refine V_getR C 8 dX9_queues_53 o9 rfl hin_X9_queues_X9 (by decide) lk_X9_queues_25 rfl rfl ?_
            refine V_iload_n C dX9_queues_56 rfl ?_
            refine V_ialdJ C dX9_queues_57 (hM.k ⟨by decide,by decide⟩) (by first | assumption | decide) (by omega) e6 ?_
            refine V_callVD (nA := 1) C dX9_queues_58 (m_children C.gp hM hB (by omega) (by omega)) gX9_queues_X9_children rfl o9 rfl (by decide +kernel) rfl (by decide) (by decide) (Nat.le_of_ble_eq_true rfl) ⟨by omega, by omega⟩ rfl ?_
            refine V_goto C 65 dX9_queues_61 (by decide) ?_
            exact go
    refine V_aload_n C dX9_queues_16 rfl ?_
    refine V_getR C 8 dX9_queues_17 o9 rfl hin_X9_queues_X9 (by decide) lk_X9_queues_25 rfl rfl ?_
    refine V_iconst C dX9_queues_20 ?_
    refine V_iload_n C dX9_queues_21 rfl ?_
    refine V_iastJ C dX9_queues_22 (hM.k ⟨by decide,by decide⟩) (by first | assumption | decide) (by omega) (zMu_k (by decide)) ?_
    refine V_aload_n C dX9_queues_23 rfl ?_
    refine V_iconst C dX9_queues_24 ?_
    refine V_putJ C 9 9 rfl dX9_queues_25 o9 rfl hin_X9_queues_X9 tyX9 tyX9_ok nmX9 (by decide) lk_X9_queues_91 rfl rfl (by decide +kernel) rfl (zMu_q) ?_
    refine V_iconst C dX9_queues_28 ?_
    refine V_istore_n C dX9_queues_29 rfl (by decide) ?_
    refine outer 33 0 (1, up Z 6 0 (rtT T)) _ _ (by omega) (by omega) (by show (0 : Int) ≤ 1; omega) ?_ eR
    intro i hi
    have hi : 0 ≤ i ∧ i < 1 := hi
    show 0 ≤ up Z 6 0 (rtT T) 6 i ∧ up Z 6 0 (rtT T) 6 i < 32
    rw [show i = 0 by omega, up_s]
    omega
  · rw [if_pos z0] at E
    refine V_return C E dX9_queues_15 (by omega) (by omega) ?_
    exact Dt_rfl
/-- the greatest of f's values at the panes of a group -/
def gmG (f : Int → Int) (T : Mem) (g : Int) : Nat → Int
  | 0 => 0
  | m + 1 => if T 9 m = g then (if gmG f T g m < f m then f m else gmG f T g m) else gmG f T g m
def mmG (f : Int → Int) : Nat → Int
  | 0 => 0
  | m + 1 => if mmG f m < f m then f m else mmG f m
def leR (mu : Mem) (r : Nat) (w : Int) : Int → Int := fun p => mu (r + 1) (3 + 2 * p + w)
def lgZ (mu : Mem) (r : Nat) (T Z : Mem) (g : Int) : Mem :=
  up (up Z 7 g (gmG (leR mu r 0) T g (mu (r + 1) 2).toNat)) 8 g (wr (gmG (leR mu r 1) T g (mu (r + 1) 2).toNat + 1))
theorem gmG_R {f : Int → Int} (hf : ∀ i, -2147483648 ≤ f i ∧ f i ≤ 2147483647) (T : Mem) (g : Int) : ∀ m, -2147483648 ≤ gmG f T g m ∧ gmG f T g m ≤ 2147483647
  | 0 => by simp [gmG]
  | m + 1 => by
    have := gmG_R hf T g m
    have := hf m
    rw [gmG]
    (repeat' split) <;> omega
theorem mmG_R {f : Int → Int} (m : Nat) (hf : ∀ i : Nat, i < m → -2147483648 ≤ f i ∧ f i ≤ 2147483647) : -2147483648 ≤ mmG f m ∧ mmG f m ≤ 2147483647 := by
  induction m with
  | zero => simp [mmG]
  | succ m ih =>
    have := ih (fun i hi => hf i (by omega))
    have := hf m (by omega)
    rw [mmG]
    split <;> omega
set_option maxRecDepth 20000 in
theorem ggX9_leastOfGroup_X9_groupOf : GoodIn wsX9_leastOfGroup wsX9_groupOf := goodIn_r _ [8, 1, 9, 10, 11, 12, 13, 14, 15, 16, 17, 18, 19, 20, 21, 22, 23, 24, 25, 26, 27, 28, 29, 30, 31, 32] (by decide +kernel) (by decide +kernel)
set_option maxRecDepth 20000 in
theorem gX9_leastOfGroup_X9_groupOf : GoodIn wsX9_leastOfGroup (wsV RX9 85 RX9 yX9_groupOf wsX9_groupOf) := goodIn_app (goodIn_of _ (by decide +kernel)) ggX9_leastOfGroup_X9_groupOf
theorem dX9_leastOfGroup_0 : decode cX9_leastOfGroup 0 = .ok (.iconst 0, 1) := by decide +kernel
theorem dX9_leastOfGroup_1 : decode cX9_leastOfGroup 1 = .ok (.istore_n 2, 1) := by decide +kernel
theorem dX9_leastOfGroup_2 : decode cX9_leastOfGroup 2 = .ok (.iconst 0, 1) := by decide +kernel
theorem dX9_leastOfGroup_3 : decode cX9_leastOfGroup 3 = .ok (.istore_n 3, 1) := by decide +kernel
theorem dX9_leastOfGroup_4 : decode cX9_leastOfGroup 4 = .ok (.iconst 0, 1) := by decide +kernel
theorem dX9_leastOfGroup_5 : decode cX9_leastOfGroup 5 = .ok (.istore 4, 2) := by decide +kernel
theorem dX9_leastOfGroup_7 : decode cX9_leastOfGroup 7 = .ok (.iload 4, 2) := by decide +kernel
theorem dX9_leastOfGroup_9 : decode cX9_leastOfGroup 9 = .ok (.aload_n 0, 1) := by decide +kernel
theorem dX9_leastOfGroup_10 : decode cX9_leastOfGroup 10 = .ok (.getfield 7, 3) := by decide +kernel
theorem dX9_leastOfGroup_13 : decode cX9_leastOfGroup 13 = .ok (.iconst 2, 1) := by decide +kernel
theorem dX9_leastOfGroup_14 : decode cX9_leastOfGroup 14 = .ok (.iaload, 1) := by decide +kernel
theorem dX9_leastOfGroup_15 : decode cX9_leastOfGroup 15 = .ok (.if_icmp .ge 85, 3) := by decide +kernel
theorem dX9_leastOfGroup_18 : decode cX9_leastOfGroup 18 = .ok (.aload_n 0, 1) := by decide +kernel
theorem dX9_leastOfGroup_19 : decode cX9_leastOfGroup 19 = .ok (.iload 4, 2) := by decide +kernel
theorem dX9_leastOfGroup_21 : decode cX9_leastOfGroup 21 = .ok (.invokevirtual 85, 3) := by decide +kernel
theorem dX9_leastOfGroup_24 : decode cX9_leastOfGroup 24 = .ok (.iload_n 1, 1) := by decide +kernel
theorem dX9_leastOfGroup_25 : decode cX9_leastOfGroup 25 = .ok (.if_icmp .ne 69, 3) := by decide +kernel
theorem dX9_leastOfGroup_28 : decode cX9_leastOfGroup 28 = .ok (.aload_n 0, 1) := by decide +kernel
theorem dX9_leastOfGroup_29 : decode cX9_leastOfGroup 29 = .ok (.getfield 7, 3) := by decide +kernel
theorem dX9_leastOfGroup_32 : decode cX9_leastOfGroup 32 = .ok (.iconst 3, 1) := by decide +kernel
theorem dX9_leastOfGroup_33 : decode cX9_leastOfGroup 33 = .ok (.iconst 2, 1) := by decide +kernel
theorem dX9_leastOfGroup_34 : decode cX9_leastOfGroup 34 = .ok (.iload 4, 2) := by decide +kernel
theorem dX9_leastOfGroup_36 : decode cX9_leastOfGroup 36 = .ok (.imul, 1) := by decide +kernel
theorem dX9_leastOfGroup_37 : decode cX9_leastOfGroup 37 = .ok (.iadd, 1) := by decide +kernel
theorem dX9_leastOfGroup_38 : decode cX9_leastOfGroup 38 = .ok (.iaload, 1) := by decide +kernel
theorem dX9_leastOfGroup_39 : decode cX9_leastOfGroup 39 = .ok (.iload_n 2, 1) := by decide +kernel
theorem dX9_leastOfGroup_40 : decode cX9_leastOfGroup 40 = .ok (.if_icmp .le 17, 3) := by decide +kernel
theorem dX9_leastOfGroup_43 : decode cX9_leastOfGroup 43 = .ok (.aload_n 0, 1) := by decide +kernel
theorem dX9_leastOfGroup_44 : decode cX9_leastOfGroup 44 = .ok (.getfield 7, 3) := by decide +kernel
theorem dX9_leastOfGroup_47 : decode cX9_leastOfGroup 47 = .ok (.iconst 3, 1) := by decide +kernel
theorem dX9_leastOfGroup_48 : decode cX9_leastOfGroup 48 = .ok (.iconst 2, 1) := by decide +kernel
theorem dX9_leastOfGroup_49 : decode cX9_leastOfGroup 49 = .ok (.iload 4, 2) := by decide +kernel
theorem dX9_leastOfGroup_51 : decode cX9_leastOfGroup 51 = .ok (.imul, 1) := by decide +kernel
theorem dX9_leastOfGroup_52 : decode cX9_leastOfGroup 52 = .ok (.iadd, 1) := by decide +kernel
theorem dX9_leastOfGroup_53 : decode cX9_leastOfGroup 53 = .ok (.iaload, 1) := by decide +kernel
theorem dX9_leastOfGroup_54 : decode cX9_leastOfGroup 54 = .ok (.goto 4, 3) := by decide +kernel
theorem dX9_leastOfGroup_57 : decode cX9_leastOfGroup 57 = .ok (.iload_n 2, 1) := by decide +kernel
theorem dX9_leastOfGroup_58 : decode cX9_leastOfGroup 58 = .ok (.istore_n 2, 1) := by decide +kernel
theorem dX9_leastOfGroup_59 : decode cX9_leastOfGroup 59 = .ok (.aload_n 0, 1) := by decide +kernel
theorem dX9_leastOfGroup_60 : decode cX9_leastOfGroup 60 = .ok (.getfield 7, 3) := by decide +kernel
theorem dX9_leastOfGroup_63 : decode cX9_leastOfGroup 63 = .ok (.iconst 3, 1) := by decide +kernel
theorem dX9_leastOfGroup_64 : decode cX9_leastOfGroup 64 = .ok (.iconst 2, 1) := by decide +kernel
theorem dX9_leastOfGroup_65 : decode cX9_leastOfGroup 65 = .ok (.iload 4, 2) := by decide +kernel
theorem dX9_leastOfGroup_67 : decode cX9_leastOfGroup 67 = .ok (.imul, 1) := by decide +kernel
theorem dX9_leastOfGroup_68 : decode cX9_leastOfGroup 68 = .ok (.iadd, 1) := by decide +kernel
theorem dX9_leastOfGroup_69 : decode cX9_leastOfGroup 69 = .ok (.iconst 1, 1) := by decide +kernel
theorem dX9_leastOfGroup_70 : decode cX9_leastOfGroup 70 = .ok (.iadd, 1) := by decide +kernel
theorem dX9_leastOfGroup_71 : decode cX9_leastOfGroup 71 = .ok (.iaload, 1) := by decide +kernel
theorem dX9_leastOfGroup_72 : decode cX9_leastOfGroup 72 = .ok (.iload_n 3, 1) := by decide +kernel
theorem dX9_leastOfGroup_73 : decode cX9_leastOfGroup 73 = .ok (.if_icmp .le 19, 3) := by decide +kernel
theorem dX9_leastOfGroup_76 : decode cX9_leastOfGroup 76 = .ok (.aload_n 0, 1) := by decide +kernel
theorem dX9_leastOfGroup_77 : decode cX9_leastOfGroup 77 = .ok (.getfield 7, 3) := by decide +kernel
theorem dX9_leastOfGroup_80 : decode cX9_leastOfGroup 80 = .ok (.iconst 3, 1) := by decide +kernel
theorem dX9_leastOfGroup_81 : decode cX9_leastOfGroup 81 = .ok (.iconst 2, 1) := by decide +kernel
theorem dX9_leastOfGroup_82 : decode cX9_leastOfGroup 82 = .ok (.iload 4, 2) := by decide +kernel
theorem dX9_leastOfGroup_84 : decode cX9_leastOfGroup 84 = .ok (.imul, 1) := by decide +kernel
theorem dX9_leastOfGroup_85 : decode cX9_leastOfGroup 85 = .ok (.iadd, 1) := by decide +kernel
theorem dX9_leastOfGroup_86 : decode cX9_leastOfGroup 86 = .ok (.iconst 1, 1) := by decide +kernel
theorem dX9_leastOfGroup_87 : decode cX9_leastOfGroup 87 = .ok (.iadd, 1) := by decide +kernel
theorem dX9_leastOfGroup_88 : decode cX9_leastOfGroup 88 = .ok (.iaload, 1) := by decide +kernel
theorem dX9_leastOfGroup_89 : decode cX9_leastOfGroup 89 = .ok (.goto 4, 3) := by decide +kernel
theorem dX9_leastOfGroup_92 : decode cX9_leastOfGroup 92 = .ok (.iload_n 3, 1) := by decide +kernel
theorem dX9_leastOfGroup_93 : decode cX9_leastOfGroup 93 = .ok (.istore_n 3, 1) := by decide +kernel
theorem dX9_leastOfGroup_94 : decode cX9_leastOfGroup 94 = .ok (.iinc 4 1, 3) := by decide +kernel
theorem dX9_leastOfGroup_97 : decode cX9_leastOfGroup 97 = .ok (.goto (-90), 3) := by decide +kernel
theorem dX9_leastOfGroup_100 : decode cX9_leastOfGroup 100 = .ok (.aload_n 0, 1) := by decide +kernel
theorem dX9_leastOfGroup_101 : decode cX9_leastOfGroup 101 = .ok (.getfield 28, 3) := by decide +kernel
theorem dX9_leastOfGroup_104 : decode cX9_leastOfGroup 104 = .ok (.iload_n 1, 1) := by decide +kernel
theorem dX9_leastOfGroup_105 : decode cX9_leastOfGroup 105 = .ok (.iload_n 2, 1) := by decide +kernel
theorem dX9_leastOfGroup_106 : decode cX9_leastOfGroup 106 = .ok (.iastore, 1) := by decide +kernel
theorem dX9_leastOfGroup_107 : decode cX9_leastOfGroup 107 = .ok (.aload_n 0, 1) := by decide +kernel
theorem dX9_leastOfGroup_108 : decode cX9_leastOfGroup 108 = .ok (.getfield 31, 3) := by decide +kernel
theorem dX9_leastOfGroup_111 : decode cX9_leastOfGroup 111 = .ok (.iload_n 1, 1) := by decide +kernel
theorem dX9_leastOfGroup_112 : decode cX9_leastOfGroup 112 = .ok (.iload_n 3, 1) := by decide +kernel
theorem dX9_leastOfGroup_113 : decode cX9_leastOfGroup 113 = .ok (.iconst 1, 1) := by decide +kernel
theorem dX9_leastOfGroup_114 : decode cX9_leastOfGroup 114 = .ok (.iadd, 1) := by decide +kernel
theorem dX9_leastOfGroup_115 : decode cX9_leastOfGroup 115 = .ok (.iastore, 1) := by decide +kernel
theorem dX9_leastOfGroup_116 : decode cX9_leastOfGroup 116 = .ok (.return_, 1) := by decide +kernel
theorem hin_X9_leastOfGroup_X9 : ∀ w ∈ wsX90, w ∈ wsX9_leastOfGroup := by decide +kernel
theorem lk_X9_leastOfGroup_7 : Cond.fieldLink RX9 7 RX9 "s" "[I" ∈ wsX9_leastOfGroup := by decide +kernel
theorem lk_X9_leastOfGroup_28 : Cond.fieldLink RX9 28 RX9 "leastW" "[I" ∈ wsX9_leastOfGroup := by decide +kernel
theorem lk_X9_leastOfGroup_31 : Cond.fieldLink RX9 31 RX9 "leastH" "[I" ∈ wsX9_leastOfGroup := by decide +kernel
theorem m_leastOfGroup (hG : GP G) (hM : MoS S r) (hR : R32 mu) {N : Int} (hB : TB N T) (hN : N ≤ 1073740000) (hP : 0 ≤ mu (r + 1) 2 ∧ mu (r + 1) 2 ≤ 16) {q x : Int} (hx : 0 ≤ x ∧ x < 32) : Ct G l yX9_leastOfGroup wsX9_leastOfGroup 1 0 0 [.ref r, .int (I32 x)] S n (lyM mu r T q Z) la (Dt none S n (lyM mu r T q (lgZ mu r T Z x)) la) := by
  have o9 := hM.1
  unfold lgZ
  have f0 : ∀ i, leR mu r 0 i = mu (r + 1) (3 + 2 * i) := fun i => by unfold leR; congr 1; omega
  have f1 : ∀ i, leR mu r 1 i = mu (r + 1) (3 + 2 * i + 1) := fun i => rfl
  have r0 := fun m => gmG_R (f := leR mu r 0) (fun i => hR _ _) T x m
  have r1 := fun m => gmG_R (f := leR mu r 1) (fun i => hR _ _) T x m
  refine Ct.ofV (cc := cX9_leastOfGroup) (nL := 5) (ret := none) [some (.ref r), some (.int (I32 x)), none, none, none] hG (by decide) rfl (Nat.le_of_ble_eq_true rfl) rfl ?_
  rintro X rfl rfl C hcl hsl E
  have loop : ∀ (d j : Nat), j + d = (mu (r + 1) 2).toNat → V X 7 [some (.ref r), some (.int (I32 x)), some (.int (I32 (gmG (leR mu r 0) T x j))), some (.int (I32 (gmG (leR mu r 1) T x j))), some (.int (I32 (j : Int)))] [] S n (lyM mu r T q Z) la 0 0 := by
    intro d
    induction d with
    | zero =>
      intro j h1
      have hj : j = (mu (r + 1) 2).toNat := by omega
      rw [← hj] at E
      refine V_iload C dX9_leastOfGroup_7 rfl ?_
      refine V_aload_n C dX9_leastOfGroup_9 rfl ?_
      refine V_getR C 0 dX9_leastOfGroup_10 o9 rfl hin_X9_leastOfGroup_X9 (by decide) lk_X9_leastOfGroup_7 rfl rfl ?_
      refine V_iconst C dX9_leastOfGroup_13 ?_
      refine V_ialdJ C dX9_leastOfGroup_14 hM.2.1 (by first | assumption | decide) (by omega) (zM_1 (by decide)) ?_
      refine V_icmp_ge C 100 dX9_leastOfGroup_15 (by decide) (by omega) (by omega) (fun z => ?_) (fun z => ?_)
      · refine V_aload_n C dX9_leastOfGroup_100 rfl ?_
        refine V_getR C 10 dX9_leastOfGroup_101 o9 rfl hin_X9_leastOfGroup_X9 (by decide) lk_X9_leastOfGroup_28 rfl rfl ?_
        refine V_iload_n C dX9_leastOfGroup_104 rfl ?_
        refine V_iload_n C dX9_leastOfGroup_105 rfl ?_
        refine V_iastJ C dX9_leastOfGroup_106 (hM.k ⟨by decide,by decide⟩) (by first | assumption | decide) (by omega) (zMu_k (by decide)) ?_
        refine V_aload_n C dX9_leastOfGroup_107 rfl ?_
        refine V_getR C 11 dX9_leastOfGroup_108 o9 rfl hin_X9_leastOfGroup_X9 (by decide) lk_X9_leastOfGroup_31 rfl rfl ?_
        refine V_iload_n C dX9_leastOfGroup_111 rfl ?_
        refine V_iload_n C dX9_leastOfGroup_112 rfl ?_
        refine V_iconst C dX9_leastOfGroup_113 ?_
        refine V_iadd C dX9_leastOfGroup_114 ?_
        refine V_wr ?_
        refine V_iastJ C dX9_leastOfGroup_115 (hM.k ⟨by decide,by decide⟩) (by first | assumption | decide) (by omega) (zMu_k (by decide)) ?_
        refine V_return C E dX9_leastOfGroup_116 (by omega) (by omega) ?_
        exact Dt_rfl
      · exact absurd z (by omega)
    | succ d ih =>
      intro j h1
      have c9 := hB.g (i := (j : Int)) (by omega)
      have h9 := ih (j + 1) (by omega)
      rw [gmG, gmG, f0, f1] at h9
      have r0 := r0 j
      have r1 := r1 j
      have q0 := hR (r + 1) (3 + 2 * (j : Int))
      have q1 := hR (r + 1) (3 + 2 * (j : Int) + 1)
      generalize gmG (leR mu r 0) T x j = a0 at h9 r0
      generalize gmG (leR mu r 1) T x j = a1 at h9 r1
      refine V_iload C dX9_leastOfGroup_7 rfl ?_
      refine V_aload_n C dX9_leastOfGroup_9 rfl ?_
      refine V_getR C 0 dX9_leastOfGroup_10 o9 rfl hin_X9_leastOfGroup_X9 (by decide) lk_X9_leastOfGroup_7 rfl rfl ?_
      refine V_iconst C dX9_leastOfGroup_13 ?_
      refine V_ialdJ C dX9_leastOfGroup_14 hM.2.1 (by first | assumption | decide) (by omega) (zM_1 (by omega)) ?_
      refine V_icmp_ge C 100 dX9_leastOfGroup_15 (by decide) (by omega) (by omega) (fun z15 => ?_) (fun z15 => ?_)
      · exact absurd z15 (by first | omega | decide)
      · refine V_aload_n C dX9_leastOfGroup_18 rfl ?_
        refine V_iload C dX9_leastOfGroup_19 rfl ?_
        refine V_callVD (nA := 1) C dX9_leastOfGroup_21 (m_groupOf C.gp hM (by omega)) gX9_leastOfGroup_X9_groupOf rfl o9 rfl (by decide +kernel) rfl (by decide) (by decide) (Nat.le_of_ble_eq_true rfl) ⟨by omega, by omega⟩ rfl ?_
        refine V_iload_n C dX9_leastOfGroup_24 rfl ?_
        refine V_icmp_ne C 94 dX9_leastOfGroup_25 (by decide) (by omega) (by omega) (fun z25 => ?_) (fun z25 => ?_)
        · refine V_iinc C dX9_leastOfGroup_94 rfl rfl (by decide) ?_
          refine V_goto C 7 dX9_leastOfGroup_97 (by decide) ?_
          first | (rw [if_neg z25, if_neg z25] at h9 ; exact h9) | exact h9
        · rw [if_pos z25, if_pos z25] at h9
          refine V_aload_n C dX9_leastOfGroup_28 rfl ?_
          refine V_getR C 0 dX9_leastOfGroup_29 o9 rfl hin_X9_leastOfGroup_X9 (by decide) lk_X9_leastOfGroup_7 rfl rfl ?_
          refine V_iconst C dX9_leastOfGroup_32 ?_
          refine V_iconst C dX9_leastOfGroup_33 ?_
          refine V_iload C dX9_leastOfGroup_34 rfl ?_
          refine V_imul C dX9_leastOfGroup_36 ?_
          refine V_iadd C dX9_leastOfGroup_37 ?_
          refine V_ialdJ C dX9_leastOfGroup_38 hM.2.1 (by first | assumption | decide) (by omega) (zM_1 (by omega)) ?_
          refine V_iload_n C dX9_leastOfGroup_39 rfl ?_
          refine V_icmp_le C 57 dX9_leastOfGroup_40 (by decide) (by omega) (by omega) (fun z40 => ?_) (fun z40 => ?_)
          · rw [if_neg (show ¬ a0 < mu (r + 1) (3 + 2 * (j : Int)) by omega)] at h9
            refine V_iload_n C dX9_leastOfGroup_57 rfl ?_
            refine V_istore_n C dX9_leastOfGroup_58 rfl (by decide) ?_
            refine V_aload_n C dX9_leastOfGroup_59 rfl ?_
            refine V_getR C 0 dX9_leastOfGroup_60 o9 rfl hin_X9_leastOfGroup_X9 (by decide) lk_X9_leastOfGroup_7 rfl rfl ?_
            refine V_iconst C dX9_leastOfGroup_63 ?_
            refine V_iconst C dX9_leastOfGroup_64 ?_
            refine V_iload C dX9_leastOfGroup_65 rfl ?_
            refine V_imul C dX9_leastOfGroup_67 ?_
            refine V_iadd C dX9_leastOfGroup_68 ?_
            refine V_iconst C dX9_leastOfGroup_69 ?_
            refine V_iadd C dX9_leastOfGroup_70 ?_
            refine V_ialdJ C dX9_leastOfGroup_71 hM.2.1 (by first | assumption | decide) (by omega) (zM_1 (by omega)) ?_
            refine V_iload_n C dX9_leastOfGroup_72 rfl ?_
            refine V_icmp_le C 92 dX9_leastOfGroup_73 (by decide) (by omega) (by omega) (fun z73 => ?_) (fun z73 => ?_)
            · rw [if_neg (show ¬ a1 < mu (r + 1) (3 + 2 * (j : Int) + 1) by omega)] at h9
              refine V_iload_n C dX9_leastOfGroup_92 rfl ?_
              refine V_istore_n C dX9_leastOfGroup_93 rfl (by decide) ?_
              refine V_iinc C dX9_leastOfGroup_94 rfl rfl (by decide) ?_
              refine V_goto C 7 dX9_leastOfGroup_97 (by decide) ?_
              first | (rw [if_neg z25, if_neg z25] at h9 ; exact h9) | exact h9
            · rw [if_pos (show a1 < mu (r + 1) (3 + 2 * (j : Int) + 1) by omega)] at h9
              refine V_aload_n C dX9_leastOfGroup_76 rfl ?_
              refine V_getR C 0 dX9_leastOfGroup_77 o9 rfl hin_X9_leastOfGroup_X9 (by decide) lk_X9_leastOfGroup_7 rfl rfl ?_
              refine V_iconst C dX9_leastOfGroup_80 ?_
              refine V_iconst C dX9_leastOfGroup_81 ?_
              refine V_iload C dX9_leastOfGroup_82 rfl ?_
              refine V_imul C dX9_leastOfGroup_84 ?_
              refine V_iadd C dX9_leastOfGroup_85 ?_
              refine V_iconst C dX9_leastOfGroup_86 ?_
              refine V_iadd C dX9_leastOfGroup_87 ?_
              refine V_ialdJ C dX9_leastOfGroup_88 hM.2.1 (by first | assumption | decide) (by omega) (zM_1 (by omega)) ?_
              refine V_goto C 93 dX9_leastOfGroup_89 (by decide) ?_
              refine V_istore_n C dX9_leastOfGroup_93 rfl (by decide) ?_
              refine V_iinc C dX9_leastOfGroup_94 rfl rfl (by decide) ?_
              refine V_goto C 7 dX9_leastOfGroup_97 (by decide) ?_
              first | (rw [if_neg z25, if_neg z25] at h9 ; exact h9) | exact h9
          · rw [if_pos (show a0 < mu (r + 1) (3 + 2 * (j : Int)) by omega)] at h9
            refine V_aload_n C dX9_leastOfGroup_43 rfl ?_
            refine V_getR C 0 dX9_leastOfGroup_44 o9 rfl hin_X9_leastOfGroup_X9 (by decide) lk_X9_leastOfGroup_7 rfl rfl ?_
            refine V_iconst C dX9_leastOfGroup_47 ?_
            refine V_iconst C dX9_leastOfGroup_48 ?_
            refine V_iload C dX9_leastOfGroup_49 rfl ?_
            refine V_imul C dX9_leastOfGroup_51 ?_
            refine V_iadd C dX9_leastOfGroup_52 ?_
            refine V_ialdJ C dX9_leastOfGroup_53 hM.2.1 (by first | assumption | decide) (by omega) (zM_1 (by omega)) ?_
            refine V_goto C 58 dX9_leastOfGroup_54 (by decide) ?_
            refine V_istore_n C dX9_leastOfGroup_58 rfl (by decide) ?_
            refine V_aload_n C dX9_leastOfGroup_59 rfl ?_
            refine V_getR C 0 dX9_leastOfGroup_60 o9 rfl hin_X9_leastOfGroup_X9 (by decide) lk_X9_leastOfGroup_7 rfl rfl ?_
            refine V_iconst C dX9_leastOfGroup_63 ?_
            refine V_iconst C dX9_leastOfGroup_64 ?_
            refine V_iload C dX9_leastOfGroup_65 rfl ?_
            refine V_imul C dX9_leastOfGroup_67 ?_
            refine V_iadd C dX9_leastOfGroup_68 ?_
            refine V_iconst C dX9_leastOfGroup_69 ?_
            refine V_iadd C dX9_leastOfGroup_70 ?_
            refine V_ialdJ C dX9_leastOfGroup_71 hM.2.1 (by first | assumption | decide) (by omega) (zM_1 (by omega)) ?_
            refine V_iload_n C dX9_leastOfGroup_72 rfl ?_
            refine V_icmp_le C 92 dX9_leastOfGroup_73 (by decide) (by omega) (by omega) (fun z73 => ?_) (fun z73 => ?_)
            · rw [if_neg (show ¬ a1 < mu (r + 1) (3 + 2 * (j : Int) + 1) by omega)] at h9
              refine V_iload_n C dX9_leastOfGroup_92 rfl ?_
              refine V_istore_n C dX9_leastOfGroup_93 rfl (by decide) ?_
              refine V_iinc C dX9_leastOfGroup_94 rfl rfl (by decide) ?_
              refine V_goto C 7 dX9_leastOfGroup_97 (by decide) ?_
              first | (rw [if_neg z25, if_neg z25] at h9 ; exact h9) | exact h9
            · rw [if_pos (show a1 < mu (r + 1) (3 + 2 * (j : Int) + 1) by omega)] at h9
              refine V_aload_n C dX9_leastOfGroup_76 rfl ?_
              refine V_getR C 0 dX9_leastOfGroup_77 o9 rfl hin_X9_leastOfGroup_X9 (by decide) lk_X9_leastOfGroup_7 rfl rfl ?_
              refine V_iconst C dX9_leastOfGroup_80 ?_
              refine V_iconst C dX9_leastOfGroup_81 ?_
              refine V_iload C dX9_leastOfGroup_82 rfl ?_
              refine V_imul C dX9_leastOfGroup_84 ?_
              refine V_iadd C dX9_leastOfGroup_85 ?_
              refine V_iconst C dX9_leastOfGroup_86 ?_
              refine V_iadd C dX9_leastOfGroup_87 ?_
              refine V_ialdJ C dX9_leastOfGroup_88 hM.2.1 (by first | assumption | decide) (by omega) (zM_1 (by omega)) ?_
              refine V_goto C 93 dX9_leastOfGroup_89 (by decide) ?_
              refine V_istore_n C dX9_leastOfGroup_93 rfl (by decide) ?_
              refine V_iinc C dX9_leastOfGroup_94 rfl rfl (by decide) ?_
              refine V_goto C 7 dX9_leastOfGroup_97 (by decide) ?_
              first | (rw [if_neg z25, if_neg z25] at h9 ; exact h9) | exact h9
  refine V_iconst C dX9_leastOfGroup_0 ?_
  refine V_istore_n C dX9_leastOfGroup_1 rfl (by decide) ?_
  refine V_iconst C dX9_leastOfGroup_2 ?_
  refine V_istore_n C dX9_leastOfGroup_3 rfl (by decide) ?_
  refine V_iconst C dX9_leastOfGroup_4 ?_
  refine V_istore C dX9_leastOfGroup_5 rfl (by decide) ?_
  exact loop (mu (r + 1) 2).toNat 0 (by omega)
end M6
