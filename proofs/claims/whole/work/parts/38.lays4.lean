/-! THE REFERENCE: sharing of a split, all boxes -/
def shL (T Z : Mem) (s a sm j : Int) : Mem := fun w i => if w = 14 ∧ 0 ≤ i ∧ i < j then a * ltF T Z s (chT T s i) / sm else Z w i
def shI (T Z : Mem) (s a sm k : Int) : Int := a * ltF T Z s (chT T s k) / sm
def inP (Z : Mem) (j : Int) : Mem := fun w i => if w = 14 ∧ 0 ≤ i ∧ i < j then wr (Z 14 i + 1) else Z w i
def alF (T : Mem) (s c : Int) : Int := if 0 < c - (kdT T s - 1) then c - (kdT T s - 1) else 0
def suF (T Z : Mem) (s : Int) : Int := ltF T Z s s - (kdT T s - 1)
def tgZ (T Z : Mem) (s c : Int) : Mem := up Z 13 s (if alF T s c ≤ suF T Z s then 1 else 0)
def lvF (T Z : Mem) (s c : Int) : Int := alF T s c - smG (shI T Z s (alF T s c) (suF T Z s)) (kdT T s).toNat
def shZ (T Z : Mem) (s c : Int) : Mem :=
  if suF T Z s < alF T s c then sfZ T s (kdT T s).toNat (alF T s c) (tgZ T Z s c) else
    inP (shL T (tgZ T Z s c) s (alF T s c) (suF T Z s) (kdT T s)) (lvF T Z s c)
/-- what the sharing of a split needs -/
def okS (T Z : Mem) (s c : Int) : Prop := (-100000 ≤ c ∧ c ≤ 1000) ∧ (-1000000 ≤ ltF T Z s s ∧ ltF T Z s s ≤ 1000000) ∧ (kdT T s ≤ 16 ∧ ∀ k, 0 ≤ k ∧ k < kdT T s → 0 ≤ chT T s k) ∧
  (suF T Z s < alF T s c → okSF T s (kdT T s).toNat (alF T s c) (tgZ T Z s c)) ∧
  (¬ suF T Z s < alF T s c → 0 < suF T Z s ∧ (∀ k, 0 ≤ k ∧ k < kdT T s → 0 ≤ ltF T Z s (chT T s k) ∧ ltF T Z s (chT T s k) ≤ 100000) ∧ (-1000000 ≤ lvF T Z s c ∧ lvF T Z s c ≤ 16))
theorem shL_0 (T Z : Mem) (s a sm : Int) : shL T Z s a sm 0 = Z := by funext w i; unfold shL; rw [if_neg (by omega)]
theorem inP_0 (Z : Mem) : inP Z 0 = Z := by funext w i; unfold inP; rw [if_neg (by omega)]
theorem inP_n (Z : Mem) {j : Int} (h : j ≤ 0) : inP Z j = Z := by funext w i; unfold inP; rw [if_neg (by omega)]
theorem shL_k (T Z : Mem) (s a sm j i : Int) {w : Nat} (h : w ≠ 14) : shL T Z s a sm j w i = Z w i := by unfold shL; rw [if_neg (by omega)]
theorem shL_s {T Z : Mem} {s a sm j : Int} (hj : 0 ≤ j) : up (shL T Z s a sm j) 14 j (shI T Z s a sm j) = shL T Z s a sm (j + 1) := by
  funext w i
  rw [up_e]
  unfold shL shI
  by_cases q1 : w = 14 ∧ i = j
  · rw [if_pos q1, if_pos (by omega), q1.2]
  · rw [if_neg q1]
    by_cases q2 : w = 14 ∧ 0 ≤ i ∧ i < j
    · rw [if_pos q2, if_pos (by omega)]
    · rw [if_neg q2, if_neg (by omega)]
theorem inP_s {Z : Mem} {j : Int} (hj : 0 ≤ j) : up (inP Z j) 14 j (wr (Z 14 j + 1)) = inP Z (j + 1) := by
  funext w i
  rw [up_e]
  unfold inP
  by_cases q1 : w = 14 ∧ i = j
  · rw [if_pos q1, if_pos (by omega), q1.2]
  · rw [if_neg q1]
    by_cases q2 : w = 14 ∧ 0 ≤ i ∧ i < j
    · rw [if_pos q2, if_pos (by omega)]
    · rw [if_neg q2, if_neg (by omega)]
theorem ltF_tg (T Z : Mem) (s c s2 x : Int) : ltF T (tgZ T Z s c) s2 x = ltF T Z s2 x := by
  unfold ltF tgZ; rw [up_a _ _ _ _ (by decide), up_a _ _ _ _ (by decide)]
theorem ltF_sh (T Z : Mem) (s a sm j s2 x : Int) : ltF T (shL T Z s a sm j) s2 x = ltF T Z s2 x := by
  unfold ltF; rw [shL_k _ _ _ _ _ _ _ (by decide), shL_k _ _ _ _ _ _ _ (by decide)]
theorem shI_tg (T Z : Mem) (s c a sm k : Int) : shI T (tgZ T Z s c) s a sm k = shI T Z s a sm k := by unfold shI; rw [ltF_tg]
theorem alF_b {T : Mem} {s c : Int} (h : -100000 ≤ c ∧ c ≤ 1000) : 0 ≤ alF T s c ∧ alF T s c ≤ 1001 := by
  have := kdT_b T s
  unfold alF; split <;> omega
theorem shI_b {T Z : Mem} {s a sm k : Int} (ha : 0 ≤ a ∧ a ≤ 1001) (hl : 0 ≤ ltF T Z s (chT T s k) ∧ ltF T Z s (chT T s k) ≤ 100000) (hs : 0 < sm) : (0 ≤ a * ltF T Z s (chT T s k) ∧ a * ltF T Z s (chT T s k) ≤ 100100000) ∧ 0 ≤ shI T Z s a sm k ∧ shI T Z s a sm k ≤ 100100000 := by
  have h1 : 0 ≤ a * ltF T Z s (chT T s k) := Int.mul_nonneg ha.1 hl.1
  have h2 : a * ltF T Z s (chT T s k) ≤ 1001 * 100000 := Int.mul_le_mul ha.2 hl.2 hl.1 (by decide)
  have h3 : 0 ≤ a * ltF T Z s (chT T s k) / sm := Int.ediv_nonneg h1 (by omega)
  have h4 : a * ltF T Z s (chT T s k) / sm ≤ a * ltF T Z s (chT T s k) := Int.ediv_le_self _ h1
  unfold shI
  omega
theorem shZ_R {T Z : Mem} {s c : Int} (h : R32Z Z) (ho : okS T Z s c) : R32Z (shZ T Z s c) := by
  obtain ⟨o1, o2, o3, o4, o5⟩ := ho
  have ht : R32Z (tgZ T Z s c) := h.upd 13 s (by split <;> omega)
  unfold shZ
  split
  · rename_i z; exact sfZ_R ht (o4 z)
  · rename_i z
    obtain ⟨p1, p2, p3⟩ := o5 z
    intro k i hk
    unfold inP
    split
    · exact wr_b _
    · unfold shL
      split
      · rename_i y
        have := shI_b (T := T) (Z := Z) (s := s) (k := i) (alF_b (T := T) (s := s) o1) (p2 i (by omega)) p1
        rw [ltF_tg]
        unfold shI at this
        omega
      · exact ht k i hk
section M9
variable {G : Gx} {l : Launch} {S : Sh} {n : Nat} {mu T Z : Mem} {la : Lam} {r : Nat}
set_option maxRecDepth 20000 in
theorem ggX9_shares_X9_children : GoodIn wsX9_shares wsX9_children := goodIn_r _ [7, 8, 9, 10, 6, 11, 12, 13, 14, 15, 35, 36, 37, 38, 39, 40, 41, 42, 43, 44, 45, 46, 47, 48, 49, 50, 51, 52, 53, 54, 55, 56, 57, 58] (by decide +kernel) (by decide +kernel)
set_option maxRecDepth 20000 in
theorem gX9_shares_X9_children : GoodIn wsX9_shares (wsV RX9 102 RX9 yX9_children wsX9_children) := goodIn_app (goodIn_of _ (by decide +kernel)) ggX9_shares_X9_children
set_option maxRecDepth 20000 in
theorem ggX9_shares_X9_least : GoodIn wsX9_shares wsX9_least := goodIn_r _ [19, 20, 21, 8, 9, 10, 6, 11, 12, 35, 36, 37, 38, 39, 40, 41, 42, 43, 44, 45, 46, 47, 48, 49, 50, 51, 52, 53, 54, 55, 56, 57, 58] (by decide +kernel) (by decide +kernel)
set_option maxRecDepth 20000 in
theorem gX9_shares_X9_least : GoodIn wsX9_shares (wsV RX9 108 RX9 yX9_least wsX9_least) := goodIn_app (goodIn_of _ (by decide +kernel)) ggX9_shares_X9_least
set_option maxRecDepth 20000 in
theorem ggX9_shares_X9_sharesFreely : GoodIn wsX9_shares wsX9_sharesFreely := goodIn_r _ [25, 26, 2, 27, 28, 29, 6, 30, 8, 9, 10, 11, 12, 13, 14, 15, 16, 17, 18, 19, 20, 21, 31, 32, 33, 34, 35, 36, 37, 38, 39, 40, 41, 42, 43, 44, 45, 46, 47, 48, 49, 50, 51, 52, 53, 54, 55, 56, 57, 58] (by decide +kernel) (by decide +kernel)
set_option maxRecDepth 20000 in
theorem gX9_shares_X9_sharesFreely : GoodIn wsX9_shares (wsV RX9 115 RX9 yX9_sharesFreely wsX9_sharesFreely) := goodIn_app (goodIn_of _ (by decide +kernel)) ggX9_shares_X9_sharesFreely
set_option maxRecDepth 20000 in
theorem ggX9_shares_X9_child : GoodIn wsX9_shares wsX9_child := goodIn_r _ [30, 8, 9, 10, 6, 11, 12, 13, 14, 15, 35, 36, 37, 38, 39, 40, 41, 42, 43, 44, 45, 46, 47, 48, 49, 50, 51, 52, 53, 54, 55, 56, 57, 58] (by decide +kernel) (by decide +kernel)
set_option maxRecDepth 20000 in
theorem gX9_shares_X9_child : GoodIn wsX9_shares (wsV RX9 105 RX9 yX9_child wsX9_child) := goodIn_app (goodIn_of _ (by decide +kernel)) ggX9_shares_X9_child
theorem dX9_shares_0 : decode cX9_shares 0 = .ok (.aload_n 0, 1) := by decide +kernel
theorem dX9_shares_1 : decode cX9_shares 1 = .ok (.iload_n 1, 1) := by decide +kernel
theorem dX9_shares_2 : decode cX9_shares 2 = .ok (.invokevirtual 102, 3) := by decide +kernel
theorem dX9_shares_5 : decode cX9_shares 5 = .ok (.istore_n 3, 1) := by decide +kernel
theorem dX9_shares_6 : decode cX9_shares 6 = .ok (.iload_n 2, 1) := by decide +kernel
theorem dX9_shares_7 : decode cX9_shares 7 = .ok (.iload_n 3, 1) := by decide +kernel
theorem dX9_shares_8 : decode cX9_shares 8 = .ok (.iconst 1, 1) := by decide +kernel
theorem dX9_shares_9 : decode cX9_shares 9 = .ok (.isub, 1) := by decide +kernel
theorem dX9_shares_10 : decode cX9_shares 10 = .ok (.isub, 1) := by decide +kernel
theorem dX9_shares_11 : decode cX9_shares 11 = .ok (.ifCond .le 11, 3) := by decide +kernel
theorem dX9_shares_14 : decode cX9_shares 14 = .ok (.iload_n 2, 1) := by decide +kernel
theorem dX9_shares_15 : decode cX9_shares 15 = .ok (.iload_n 3, 1) := by decide +kernel
theorem dX9_shares_16 : decode cX9_shares 16 = .ok (.iconst 1, 1) := by decide +kernel
theorem dX9_shares_17 : decode cX9_shares 17 = .ok (.isub, 1) := by decide +kernel
theorem dX9_shares_18 : decode cX9_shares 18 = .ok (.isub, 1) := by decide +kernel
theorem dX9_shares_19 : decode cX9_shares 19 = .ok (.goto 4, 3) := by decide +kernel
theorem dX9_shares_22 : decode cX9_shares 22 = .ok (.iconst 0, 1) := by decide +kernel
theorem dX9_shares_23 : decode cX9_shares 23 = .ok (.istore 4, 2) := by decide +kernel
theorem dX9_shares_25 : decode cX9_shares 25 = .ok (.aload_n 0, 1) := by decide +kernel
theorem dX9_shares_26 : decode cX9_shares 26 = .ok (.iload_n 1, 1) := by decide +kernel
theorem dX9_shares_27 : decode cX9_shares 27 = .ok (.iload_n 1, 1) := by decide +kernel
theorem dX9_shares_28 : decode cX9_shares 28 = .ok (.invokevirtual 108, 3) := by decide +kernel
theorem dX9_shares_31 : decode cX9_shares 31 = .ok (.iload_n 3, 1) := by decide +kernel
theorem dX9_shares_32 : decode cX9_shares 32 = .ok (.iconst 1, 1) := by decide +kernel
theorem dX9_shares_33 : decode cX9_shares 33 = .ok (.isub, 1) := by decide +kernel
theorem dX9_shares_34 : decode cX9_shares 34 = .ok (.isub, 1) := by decide +kernel
theorem dX9_shares_35 : decode cX9_shares 35 = .ok (.istore 5, 2) := by decide +kernel
theorem dX9_shares_37 : decode cX9_shares 37 = .ok (.aload_n 0, 1) := by decide +kernel
theorem dX9_shares_38 : decode cX9_shares 38 = .ok (.getfield 46, 3) := by decide +kernel
theorem dX9_shares_41 : decode cX9_shares 41 = .ok (.iload_n 1, 1) := by decide +kernel
theorem dX9_shares_42 : decode cX9_shares 42 = .ok (.iload 5, 2) := by decide +kernel
theorem dX9_shares_44 : decode cX9_shares 44 = .ok (.iload 4, 2) := by decide +kernel
theorem dX9_shares_46 : decode cX9_shares 46 = .ok (.if_icmp .lt 7, 3) := by decide +kernel
theorem dX9_shares_49 : decode cX9_shares 49 = .ok (.iconst 1, 1) := by decide +kernel
theorem dX9_shares_50 : decode cX9_shares 50 = .ok (.goto 4, 3) := by decide +kernel
theorem dX9_shares_53 : decode cX9_shares 53 = .ok (.iconst 0, 1) := by decide +kernel
theorem dX9_shares_54 : decode cX9_shares 54 = .ok (.iastore, 1) := by decide +kernel
theorem dX9_shares_55 : decode cX9_shares 55 = .ok (.iload 5, 2) := by decide +kernel
theorem dX9_shares_57 : decode cX9_shares 57 = .ok (.iload 4, 2) := by decide +kernel
theorem dX9_shares_59 : decode cX9_shares 59 = .ok (.if_icmp .ge 12, 3) := by decide +kernel
theorem dX9_shares_62 : decode cX9_shares 62 = .ok (.aload_n 0, 1) := by decide +kernel
theorem dX9_shares_63 : decode cX9_shares 63 = .ok (.iload_n 1, 1) := by decide +kernel
theorem dX9_shares_64 : decode cX9_shares 64 = .ok (.iload_n 3, 1) := by decide +kernel
theorem dX9_shares_65 : decode cX9_shares 65 = .ok (.iload 4, 2) := by decide +kernel
theorem dX9_shares_67 : decode cX9_shares 67 = .ok (.invokevirtual 115, 3) := by decide +kernel
theorem dX9_shares_70 : decode cX9_shares 70 = .ok (.return_, 1) := by decide +kernel
theorem dX9_shares_71 : decode cX9_shares 71 = .ok (.iload 4, 2) := by decide +kernel
theorem dX9_shares_73 : decode cX9_shares 73 = .ok (.istore 6, 2) := by decide +kernel
theorem dX9_shares_75 : decode cX9_shares 75 = .ok (.iconst 0, 1) := by decide +kernel
theorem dX9_shares_76 : decode cX9_shares 76 = .ok (.istore 7, 2) := by decide +kernel
theorem dX9_shares_78 : decode cX9_shares 78 = .ok (.iload 7, 2) := by decide +kernel
theorem dX9_shares_80 : decode cX9_shares 80 = .ok (.iload_n 3, 1) := by decide +kernel
theorem dX9_shares_81 : decode cX9_shares 81 = .ok (.if_icmp .ge 46, 3) := by decide +kernel
theorem dX9_shares_84 : decode cX9_shares 84 = .ok (.aload_n 0, 1) := by decide +kernel
theorem dX9_shares_85 : decode cX9_shares 85 = .ok (.getfield 49, 3) := by decide +kernel
theorem dX9_shares_88 : decode cX9_shares 88 = .ok (.iload 7, 2) := by decide +kernel
theorem dX9_shares_90 : decode cX9_shares 90 = .ok (.iload 4, 2) := by decide +kernel
theorem dX9_shares_92 : decode cX9_shares 92 = .ok (.aload_n 0, 1) := by decide +kernel
theorem dX9_shares_93 : decode cX9_shares 93 = .ok (.iload_n 1, 1) := by decide +kernel
theorem dX9_shares_94 : decode cX9_shares 94 = .ok (.aload_n 0, 1) := by decide +kernel
theorem dX9_shares_95 : decode cX9_shares 95 = .ok (.iload_n 1, 1) := by decide +kernel
theorem dX9_shares_96 : decode cX9_shares 96 = .ok (.iload 7, 2) := by decide +kernel
theorem dX9_shares_98 : decode cX9_shares 98 = .ok (.invokevirtual 105, 3) := by decide +kernel
theorem dX9_shares_101 : decode cX9_shares 101 = .ok (.invokevirtual 108, 3) := by decide +kernel
theorem dX9_shares_104 : decode cX9_shares 104 = .ok (.imul, 1) := by decide +kernel
theorem dX9_shares_105 : decode cX9_shares 105 = .ok (.iload 5, 2) := by decide +kernel
theorem dX9_shares_107 : decode cX9_shares 107 = .ok (.idiv, 1) := by decide +kernel
theorem dX9_shares_108 : decode cX9_shares 108 = .ok (.iastore, 1) := by decide +kernel
theorem dX9_shares_109 : decode cX9_shares 109 = .ok (.iload 6, 2) := by decide +kernel
theorem dX9_shares_111 : decode cX9_shares 111 = .ok (.aload_n 0, 1) := by decide +kernel
theorem dX9_shares_112 : decode cX9_shares 112 = .ok (.getfield 49, 3) := by decide +kernel
theorem dX9_shares_115 : decode cX9_shares 115 = .ok (.iload 7, 2) := by decide +kernel
theorem dX9_shares_117 : decode cX9_shares 117 = .ok (.iaload, 1) := by decide +kernel
theorem dX9_shares_118 : decode cX9_shares 118 = .ok (.isub, 1) := by decide +kernel
theorem dX9_shares_119 : decode cX9_shares 119 = .ok (.istore 6, 2) := by decide +kernel
theorem dX9_shares_121 : decode cX9_shares 121 = .ok (.iinc 7 1, 3) := by decide +kernel
theorem dX9_shares_124 : decode cX9_shares 124 = .ok (.goto (-46), 3) := by decide +kernel
theorem dX9_shares_127 : decode cX9_shares 127 = .ok (.iconst 0, 1) := by decide +kernel
theorem dX9_shares_128 : decode cX9_shares 128 = .ok (.istore 7, 2) := by decide +kernel
theorem dX9_shares_130 : decode cX9_shares 130 = .ok (.iload 7, 2) := by decide +kernel
theorem dX9_shares_132 : decode cX9_shares 132 = .ok (.iload 6, 2) := by decide +kernel
theorem dX9_shares_134 : decode cX9_shares 134 = .ok (.if_icmp .ge 20, 3) := by decide +kernel
theorem dX9_shares_137 : decode cX9_shares 137 = .ok (.aload_n 0, 1) := by decide +kernel
theorem dX9_shares_138 : decode cX9_shares 138 = .ok (.getfield 49, 3) := by decide +kernel
theorem dX9_shares_141 : decode cX9_shares 141 = .ok (.iload 7, 2) := by decide +kernel
theorem dX9_shares_143 : decode cX9_shares 143 = .ok (.dup2, 1) := by decide +kernel
theorem dX9_shares_144 : decode cX9_shares 144 = .ok (.iaload, 1) := by decide +kernel
theorem dX9_shares_145 : decode cX9_shares 145 = .ok (.iconst 1, 1) := by decide +kernel
theorem dX9_shares_146 : decode cX9_shares 146 = .ok (.iadd, 1) := by decide +kernel
theorem dX9_shares_147 : decode cX9_shares 147 = .ok (.iastore, 1) := by decide +kernel
theorem dX9_shares_148 : decode cX9_shares 148 = .ok (.iinc 7 1, 3) := by decide +kernel
theorem dX9_shares_151 : decode cX9_shares 151 = .ok (.goto (-21), 3) := by decide +kernel
theorem dX9_shares_154 : decode cX9_shares 154 = .ok (.return_, 1) := by decide +kernel
theorem hin_X9_shares_X9 : ∀ w ∈ wsX90, w ∈ wsX9_shares := by decide +kernel
theorem lk_X9_shares_46 : Cond.fieldLink RX9 46 RX9 "tight" "[I" ∈ wsX9_shares := by decide +kernel
theorem lk_X9_shares_49 : Cond.fieldLink RX9 49 RX9 "share" "[I" ∈ wsX9_shares := by decide +kernel
theorem m_shares (hG : GP G) (hM : MoS S r) {N : Int} (hB : TB N T) (hN : N ≤ 1073740000) (hR : R32Z Z) {q s c : Int} (hs : 0 ≤ s ∧ s < 32) (ho : okS T Z s c) : Ct G l yX9_shares wsX9_shares 4 0 0 [.ref r, .int (I32 s), .int (I32 c)] S n (lyM mu r T q Z) la (Dt none S n (lyM mu r T q (shZ T Z s c)) la) := by
  have o9 := hM.1
  have h14 := hM.2.2.2.2.2.2.2.1
  obtain ⟨o1, o2, o3, o4, o5⟩ := ho
  have bk := kdT_b T s
  have ba := alF_b (T := T) (s := s) o1
  have ht : R32Z (tgZ T Z s c) := hR.upd 13 s (by split <;> omega)
  unfold shZ
  refine Ct.ofV (cc := cX9_shares) (nL := 8) (ret := none) [some (.ref r), some (.int (I32 s)), some (.int (I32 c)), none, none, none, none, none] hG (by decide) rfl (Nat.le_of_ble_eq_true rfl) rfl ?_
  rintro X rfl rfl C hcl hsl E
  have hsu : suF T Z s = ltF T Z s s - (kdT T s - 1) := rfl
  have tail : V X 55 [some (.ref r), some (.int (I32 s)), some (.int (I32 c)), some (.int (I32 (kdT T s))), some (.int (I32 (alF T s c))), some (.int (I32 (suF T Z s))), none, none] [] S n (lyM mu r T q (tgZ T Z s c)) la 0 0 := by
    refine V_iload C dX9_shares_55 rfl ?_
    refine V_iload C dX9_shares_57 rfl ?_
    refine V_icmp_ge C 71 dX9_shares_59 (by decide) (by omega) (by omega) (fun z1 => ?_) (fun z1 => ?_)
    · rw [if_neg (by omega)] at E
      obtain ⟨p1, p2, p3⟩ := o5 (by omega)
      have loop2 : ∀ (d : Nat) (j : Int), (j + d = lvF T Z s c ∨ (d = 0 ∧ lvF T Z s c ≤ 0 ∧ j = 0)) → 0 ≤ j → V X 130 [some (.ref r), some (.int (I32 s)), some (.int (I32 c)), some (.int (I32 (kdT T s))), some (.int (I32 (alF T s c))), some (.int (I32 (suF T Z s))), some (.int (I32 (lvF T Z s c))), some (.int (I32 j))] [] S n (lyM mu r T q (inP (shL T (tgZ T Z s c) s (alF T s c) (suF T Z s) (kdT T s)) j)) la 0 0 := by
        intro d
        induction d with
        | zero =>
          intro j h1 h2
          have e9 : inP (shL T (tgZ T Z s c) s (alF T s c) (suF T Z s) (kdT T s)) j = inP (shL T (tgZ T Z s c) s (alF T s c) (suF T Z s) (kdT T s)) (lvF T Z s c) := by
            by_cases hj : j = lvF T Z s c
            · rw [hj]
            · rw [inP_n _ (by omega), inP_n _ (by omega)]
          rw [e9]
          refine V_iload C dX9_shares_130 rfl ?_
          refine V_iload C dX9_shares_132 rfl ?_
          refine V_icmp_ge C 154 dX9_shares_134 (by decide) (by omega) (by omega) (fun z134 => ?_) (fun z134 => ?_)
          · refine V_return C E dX9_shares_154 (by omega) (by omega) ?_
            exact Dt_rfl
          · exact absurd z134 (by first | omega | decide)
        | succ d ih =>
          intro j h1 h2
          have h9 := ih (j + 1) (by omega) (by omega)
          refine V_iload C dX9_shares_130 rfl ?_
          refine V_iload C dX9_shares_132 rfl ?_
          refine V_icmp_ge C 154 dX9_shares_134 (by decide) (by omega) (by omega) (fun z134 => ?_) (fun z134 => ?_)
          · exact absurd z134 (by first | omega | decide)
          · refine V_aload_n C dX9_shares_137 rfl ?_
            refine V_getR C 17 dX9_shares_138 o9 rfl hin_X9_shares_X9 (by decide) lk_X9_shares_49 rfl rfl ?_
            refine V_iload C dX9_shares_141 rfl ?_
            refine V_dup2 C dX9_shares_143 rfl rfl ?_
            refine V_ialdJ C dX9_shares_144 h14 (by first | assumption | decide) (by omega) ((zM_k (by decide)).trans (show inP (shL T (tgZ T Z s c) s (alF T s c) (suF T Z s) (kdT T s)) j 14 j = shL T (tgZ T Z s c) s (alF T s c) (suF T Z s) (kdT T s) 14 j by unfold inP; rw [if_neg (by omega)])) ?_
            refine V_iconst C dX9_shares_145 ?_
            refine V_iadd C dX9_shares_146 ?_
            refine V_wr ?_
            refine V_iastJ C dX9_shares_147 h14 (by first | assumption | decide) (by omega) ((zMu_k (by decide)).trans (by rw [inP_s h2])) ?_
            refine V_iinc C dX9_shares_148 rfl rfl (by decide) ?_
            refine V_goto C 130 dX9_shares_151 (by decide) ?_
            exact h9
      have loop1 : ∀ (d j : Nat), (j : Int) + d = kdT T s → V X 78 [some (.ref r), some (.int (I32 s)), some (.int (I32 c)), some (.int (I32 (kdT T s))), some (.int (I32 (alF T s c))), some (.int (I32 (suF T Z s))), some (.int (I32 (alF T s c - smG (shI T Z s (alF T s c) (suF T Z s)) j))), some (.int (I32 (j : Int)))] [] S n (lyM mu r T q (shL T (tgZ T Z s c) s (alF T s c) (suF T Z s) j)) la 0 0 := by
        intro d
        induction d with
        | zero =>
          intro j h1
          have hj : (j : Int) = kdT T s := by omega
          have hj2 : (kdT T s).toNat = j := by omega
          have h8 := loop2 (lvF T Z s c).toNat 0 (by omega) (by omega)
          rw [inP_0, ← hj, lvF, hj2] at h8
          refine V_iload C dX9_shares_78 rfl ?_
          refine V_iload_n C dX9_shares_80 rfl ?_
          refine V_icmp_ge C 127 dX9_shares_81 (by decide) (by omega) (by omega) (fun z2 => ?_) (fun z2 => ?_)
          · refine V_iconst C dX9_shares_127 ?_
            refine V_istore C dX9_shares_128 rfl (by decide) ?_
            rw [← hj]
            exact h8
          · exact absurd z2 (by omega)
        | succ d ih =>
          intro j h1
          have h9 := ih (j + 1) (by omega)
          have hc := o3.2 j (by omega)
          have hc2 := (chT_b T s j).2
          have hl := p2 j (by omega)
          have hb := shI_b (T := T) (Z := Z) (s := s) (k := (j : Int)) ba hl p1
          rw [smG, show ((j + 1 : Nat) : Int) = (j : Int) + 1 from rfl, ← shL_s (by omega), shI_tg] at h9
          refine V_iload C dX9_shares_78 rfl ?_
          refine V_iload_n C dX9_shares_80 rfl ?_
          refine V_icmp_ge C 127 dX9_shares_81 (by decide) (by omega) (by omega) (fun z2 => ?_) (fun z2 => ?_)
          · exact absurd z2 (by omega)
          · refine V_aload_n C dX9_shares_84 rfl ?_
            refine V_getR C 17 dX9_shares_85 o9 rfl hin_X9_shares_X9 (by decide) lk_X9_shares_49 rfl rfl ?_
            refine V_iload C dX9_shares_88 rfl ?_
            refine V_iload C dX9_shares_90 rfl ?_
            refine V_aload_n C dX9_shares_92 rfl ?_
            refine V_iload_n C dX9_shares_93 rfl ?_
            refine V_aload_n C dX9_shares_94 rfl ?_
            refine V_iload_n C dX9_shares_95 rfl ?_
            refine V_iload C dX9_shares_96 rfl ?_
            refine V_callVD (nA := 2) C dX9_shares_98 (m_child C.gp hM hB (by omega) (by omega) (by omega)) gX9_shares_X9_child rfl o9 rfl (by decide +kernel) rfl (by decide) (by decide) (Nat.le_of_ble_eq_true rfl) ⟨by omega, by omega⟩ rfl ?_
            refine V_callVD (nA := 2) C dX9_shares_101 (m_least C.gp hM hB (by omega) hs (by omega)) gX9_shares_X9_least rfl o9 rfl (by decide +kernel) rfl (by decide) (by decide) (Nat.le_of_ble_eq_true rfl) ⟨by omega, by omega⟩ rfl ?_
            rw [ltF_sh, ltF_tg]
            refine V_imul C dX9_shares_104 ?_
            refine V_iload C dX9_shares_105 rfl ?_
            refine V_idiv C dX9_shares_107 (by omega) (by omega) ?_
            rw [show alF T s c * ltF T Z s (chT T s j) / suF T Z s = shI T Z s (alF T s c) (suF T Z s) j from rfl]
            refine V_iastJ C dX9_shares_108 h14 (by first | assumption | decide) (by omega) (zMu_k (by decide)) ?_
            refine V_iload C dX9_shares_109 rfl ?_
            refine V_aload_n C dX9_shares_111 rfl ?_
            refine V_getR C 17 dX9_shares_112 o9 rfl hin_X9_shares_X9 (by decide) lk_X9_shares_49 rfl rfl ?_
            refine V_iload C dX9_shares_115 rfl ?_
            refine V_ialdJ C dX9_shares_117 h14 (by first | assumption | decide) (by omega) ((zM_k (by decide)).trans (up_s _ _ _ _)) ?_
            refine V_isub C dX9_shares_118 ?_
            rw [show alF T s c - smG (shI T Z s (alF T s c) (suF T Z s)) j - shI T Z s (alF T s c) (suF T Z s) j = alF T s c - (smG (shI T Z s (alF T s c) (suF T Z s)) j + shI T Z s (alF T s c) (suF T Z s) j) by omega]
            refine V_istore C dX9_shares_119 rfl (by decide) ?_
            refine V_iinc C dX9_shares_121 rfl rfl (by decide) ?_
            refine V_goto C 78 dX9_shares_124 (by decide) ?_
            exact h9
      refine V_iload C dX9_shares_71 rfl ?_
      refine V_istore C dX9_shares_73 rfl (by decide) ?_
      refine V_iconst C dX9_shares_75 ?_
      refine V_istore C dX9_shares_76 rfl (by decide) ?_
      have h8 := loop1 (kdT T s).toNat 0 (by omega)
      rw [smG, show ((0 : Nat) : Int) = 0 from rfl, shL_0, show alF T s c - (0 : Int) = alF T s c by omega] at h8
      exact h8
    · rw [if_pos (by omega)] at E
      have o4 := o4 (by omega)
      have ek : ((kdT T s).toNat : Int) = kdT T s := Int.toNat_of_nonneg bk.1
      have h9 := m_sharesFreely (l := xL X) (n := n) (mu := mu) (la := la) (r := r) C.gp hM hB hN ht (q := q) hs (m := (kdT T s).toNat) (by omega) o4
      rw [ek] at h9
      refine V_aload_n C dX9_shares_62 rfl ?_
      refine V_iload_n C dX9_shares_63 rfl ?_
      refine V_iload_n C dX9_shares_64 rfl ?_
      refine V_iload C dX9_shares_65 rfl ?_
      refine V_callVD (nA := 3) C dX9_shares_67 h9 gX9_shares_X9_sharesFreely rfl o9 rfl (by decide +kernel) rfl (by decide) (by decide) (Nat.le_of_ble_eq_true rfl) ⟨by omega, by omega⟩ rfl ?_
      refine V_return C E dX9_shares_70 (by omega) (by omega) ?_
      exact Dt_rfl
  have mid : V X 25 [some (.ref r), some (.int (I32 s)), some (.int (I32 c)), some (.int (I32 (kdT T s))), some (.int (I32 (alF T s c))), none, none, none] [] S n (lyM mu r T q Z) la 0 0 := by
    refine V_aload_n C dX9_shares_25 rfl ?_
    refine V_iload_n C dX9_shares_26 rfl ?_
    refine V_iload_n C dX9_shares_27 rfl ?_
    refine V_callVD (nA := 2) C dX9_shares_28 (m_least C.gp hM hB (by omega) hs hs) gX9_shares_X9_least rfl o9 rfl (by decide +kernel) rfl (by decide) (by decide) (Nat.le_of_ble_eq_true rfl) ⟨by omega, by omega⟩ rfl ?_
    refine V_iload_n C dX9_shares_31 rfl ?_
    refine V_iconst C dX9_shares_32 ?_
    refine V_isub C dX9_shares_33 ?_
    refine V_isub C dX9_shares_34 ?_
    refine V_istore C dX9_shares_35 rfl (by decide) ?_
    refine V_aload_n C dX9_shares_37 rfl ?_
    refine V_getR C 16 dX9_shares_38 o9 rfl hin_X9_shares_X9 (by decide) lk_X9_shares_46 rfl rfl ?_
    refine V_iload_n C dX9_shares_41 rfl ?_
    refine V_iload C dX9_shares_42 rfl ?_
    refine V_iload C dX9_shares_44 rfl ?_
    rw [show ltF T Z s s - (kdT T s - 1) = suF T Z s from rfl]
    unfold tgZ at tail
    refine V_icmp_lt C 53 dX9_shares_46 (by decide) (by omega) (by omega) (fun z1 => ?_) (fun z1 => ?_)
    · rw [if_neg (by omega)] at tail
      refine V_iconst C dX9_shares_53 ?_
      refine V_iastJ C dX9_shares_54 (hM.k ⟨by decide,by decide⟩) (by first | assumption | decide) (by omega) (zMu_k (by decide)) ?_
      exact tail
    · rw [if_pos (by omega)] at tail
      refine V_iconst C dX9_shares_49 ?_
      refine V_goto C 54 dX9_shares_50 (by decide) ?_
      refine V_iastJ C dX9_shares_54 (hM.k ⟨by decide,by decide⟩) (by first | assumption | decide) (by omega) (zMu_k (by decide)) ?_
      exact tail
  refine V_aload_n C dX9_shares_0 rfl ?_
  refine V_iload_n C dX9_shares_1 rfl ?_
  refine V_callVD (nA := 1) C dX9_shares_2 (m_children C.gp hM hB (by omega) (by omega)) gX9_shares_X9_children rfl o9 rfl (by decide +kernel) rfl (by decide) (by decide) (Nat.le_of_ble_eq_true rfl) ⟨by omega, by omega⟩ rfl ?_
  refine V_istore_n C dX9_shares_5 rfl (by decide) ?_
  refine V_iload_n C dX9_shares_6 rfl ?_
  refine V_iload_n C dX9_shares_7 rfl ?_
  refine V_iconst C dX9_shares_8 ?_
  refine V_isub C dX9_shares_9 ?_
  refine V_isub C dX9_shares_10 ?_
  unfold alF at mid
  refine V_if_le C 22 dX9_shares_11 (by decide) (by omega) (fun z0 => ?_) (fun z0 => ?_)
  · rw [if_neg (by omega)] at mid
    refine V_iconst C dX9_shares_22 ?_
    refine V_istore C dX9_shares_23 rfl (by decide) ?_
    exact mid
  · rw [if_pos (by omega)] at mid
    refine V_iload_n C dX9_shares_14 rfl ?_
    refine V_iload_n C dX9_shares_15 rfl ?_
    refine V_iconst C dX9_shares_16 ?_
    refine V_isub C dX9_shares_17 ?_
    refine V_isub C dX9_shares_18 ?_
    refine V_goto C 23 dX9_shares_19 (by decide) ?_
    refine V_istore C dX9_shares_23 rfl (by decide) ?_
    exact mid
end M9
