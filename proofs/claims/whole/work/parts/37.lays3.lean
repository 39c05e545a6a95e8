/-! THE REFERENCE: sharing -/
def f1P (Z : Mem) (j : Int) : Mem := fun w i => if w = 15 ∧ 0 ≤ i ∧ i < j then (if 0 < Z 15 i then 1 else 0) else Z w i
def f0P (Z : Mem) (j : Int) : Mem := fun w i => if w = 15 ∧ 0 ≤ i ∧ i < j then 0 else Z w i
def wtI (T Z : Mem) (s k : Int) : Int := if 0 < Z 15 k then 0 else T 3 (chT T s k)
def rmI (T Z : Mem) (s k : Int) : Int := if 0 < Z 15 k then ltF T Z s (chT T s k) else 0
def wtF (T Z : Mem) (s : Int) (m : Nat) : Int := smG (wtI T Z s) m
def rmF9 (T Z : Mem) (s : Int) (m : Nat) (a : Int) : Int := a - smG (rmI T Z s) m
def frS (T Z : Mem) (s : Int) (m : Nat) (a : Int) : Mem := fxP T (f1P Z m) s (rmF9 T Z s m a) (wtF T Z s m) m
def frN (T Z : Mem) (s : Int) (m : Nat) (a : Int) : Int := smG (ffx T (f1P Z m) s (rmF9 T Z s m a) (wtF T Z s m)) m
/-- the looks, one behind the other: (rows, room) at the end -/
def frG (T : Mem) (s : Int) (m : Nat) (a : Int) : Nat → Mem → Mem × Int
  | 0, Z => (Z, 0)
  | d + 1, Z => if frN T Z s m a = 0 then (frS T Z s m a, rmF9 T Z s m a) else frG T s m a d (frS T Z s m a)
def okR (T : Mem) (s : Int) (m : Nat) (a : Int) : Nat → Mem → Prop
  | 0, _ => False
  | d + 1, Z => okX T (f1P Z m) s m (rmF9 T Z s m a) (wtF T Z s m) ∧ (frN T Z s m a ≠ 0 → okR T s m a d (frS T Z s m a))
def lfI (Z : Mem) (k : Int) : Int := if Z 15 k = 0 then Z 14 k else 0
def hwG : Nat → Int → Int → Mem → Mem
  | 0, _, _, Z => Z
  | d + 1, k, lf, Z => if 0 < lf then hwG d (k + 1) (lf - (if Z 15 k = 0 then 1 else 0)) (up Z 14 k (wr (Z 14 k + (if Z 15 k = 0 then 1 else 0)))) else Z
def sfF (T : Mem) (s : Int) (m : Nat) (a : Int) (Z : Mem) : Mem × Int := frG T s m a 18 (f0P Z m)
def sfZ (T : Mem) (s : Int) (m : Nat) (a : Int) (Z : Mem) : Mem := hwG m 0 ((sfF T s m a Z).2 - smG (lfI (sfF T s m a Z).1) m) (sfF T s m a Z).1
def okSF (T : Mem) (s : Int) (m : Nat) (a : Int) (Z : Mem) : Prop := okR T s m a 18 (f0P Z m) ∧ (-1000000 ≤ (sfF T s m a Z).2 - smG (lfI (sfF T s m a Z).1) m ∧ (sfF T s m a Z).2 - smG (lfI (sfF T s m a Z).1) m ≤ 1000000)
theorem f1P_0 (Z : Mem) : f1P Z 0 = Z := by funext w i; unfold f1P; rw [if_neg (by omega)]
theorem f0P_0 (Z : Mem) : f0P Z 0 = Z := by funext w i; unfold f0P; rw [if_neg (by omega)]
theorem f1P_k (Z : Mem) (j i : Int) {w : Nat} (h : w ≠ 15) : f1P Z j w i = Z w i := by unfold f1P; rw [if_neg (by omega)]
theorem f0P_k (Z : Mem) (j i : Int) {w : Nat} (h : w ≠ 15) : f0P Z j w i = Z w i := by unfold f0P; rw [if_neg (by omega)]
theorem f1P_hi (Z : Mem) (j i : Int) (h : j ≤ i) (w : Nat) : f1P Z j w i = Z w i := by unfold f1P; rw [if_neg (by omega)]
theorem f1P_s {Z : Mem} {j : Int} (hj : 0 ≤ j) : up (f1P Z j) 15 j (if 0 < Z 15 j then 1 else 0) = f1P Z (j + 1) := by
  funext w i
  rw [up_e]
  unfold f1P
  by_cases q1 : w = 15 ∧ i = j
  · rw [if_pos q1, if_pos (show w = 15 ∧ 0 ≤ i ∧ i < j + 1 by omega), q1.2]
  · rw [if_neg q1]
    by_cases q2 : w = 15 ∧ 0 ≤ i ∧ i < j
    · rw [if_pos q2, if_pos (show w = 15 ∧ 0 ≤ i ∧ i < j + 1 by omega)]
    · rw [if_neg q2, if_neg (by omega)]
theorem f0P_s {Z : Mem} {j : Int} (hj : 0 ≤ j) : up (f0P Z j) 15 j 0 = f0P Z (j + 1) := by
  funext w i
  rw [up_e]
  unfold f0P
  by_cases q1 : w = 15 ∧ i = j
  · rw [if_pos q1, if_pos (by omega)]
  · rw [if_neg q1]
    by_cases q2 : w = 15 ∧ 0 ≤ i ∧ i < j
    · rw [if_pos q2, if_pos (by omega)]
    · rw [if_neg q2, if_neg (by omega)]
theorem ltF_f1 (T Z : Mem) (j s2 c : Int) : ltF T (f1P Z j) s2 c = ltF T Z s2 c := by
  unfold ltF; rw [f1P_k _ _ _ (by decide), f1P_k _ _ _ (by decide)]
theorem f1P_R {Z : Mem} (h : R32Z Z) (j : Int) : R32Z (f1P Z j) := fun k i hk => by
  unfold f1P
  split
  · split <;> omega
  · exact h k i hk
theorem f0P_R {Z : Mem} (h : R32Z Z) (j : Int) : R32Z (f0P Z j) := fun k i hk => by
  unfold f0P
  split
  · omega
  · exact h k i hk
theorem frG_R {T : Mem} {s : Int} {m : Nat} {a : Int} : ∀ (d : Nat) {Z : Mem}, R32Z Z → okR T s m a d Z → R32Z (frG T s m a d Z).1
  | 0, Z, h, ho => h
  | d + 1, Z, h, ho => by
    have h1 : R32Z (frS T Z s m a) := fxP_R (f1P_R h m) ho.1 (Int.le_refl _)
    rw [frG]
    split
    · exact h1
    · rename_i z
      exact frG_R d h1 (ho.2 z)
theorem hwG_R : ∀ (d : Nat) (k lf : Int) {Z : Mem}, R32Z Z → R32Z (hwG d k lf Z)
  | 0, _, _, Z, h => h
  | d + 1, k, lf, Z, h => by
    rw [hwG]
    split
    · exact hwG_R d _ _ (h.upd 14 k (wr_b _))
    · exact h
theorem sfZ_R {T : Mem} {s : Int} {m : Nat} {a : Int} {Z : Mem} (h : R32Z Z) (ho : okSF T s m a Z) : R32Z (sfZ T s m a Z) := hwG_R m _ _ (frG_R 18 (f0P_R h m) ho.1)
theorem lfI_R {Z : Mem} (h : R32Z Z) (k : Int) : -2147483648 ≤ lfI Z k ∧ lfI Z k ≤ 2147483647 := by
  unfold lfI
  split
  · exact h 14 k (by decide)
  · omega
section M8
variable {G : Gx} {l : Launch} {S : Sh} {n : Nat} {mu T Z : Mem} {la : Lam} {r : Nat}
set_option maxRecDepth 20000 in
theorem ggX9_sharesFreely_X9_child : GoodIn wsX9_sharesFreely wsX9_child := goodIn_r _ [7, 8, 9, 10, 6, 11, 12, 13, 14, 15, 26, 27, 28, 29, 30, 31, 32, 33, 34, 35, 36, 37, 38, 39, 40, 41, 42, 43, 44, 45, 46, 47, 48, 49] (by decide +kernel) (by decide +kernel)
set_option maxRecDepth 20000 in
theorem gX9_sharesFreely_X9_child : GoodIn wsX9_sharesFreely (wsV RX9 105 RX9 yX9_child wsX9_child) := goodIn_app (goodIn_of _ (by decide +kernel)) ggX9_sharesFreely_X9_child
set_option maxRecDepth 20000 in
theorem ggX9_sharesFreely_X9_of : GoodIn wsX9_sharesFreely wsX9_of := goodIn_r _ [11, 12, 26, 27, 28, 29, 30, 31, 32, 33, 34, 35, 36, 37, 38, 39, 40, 41, 42, 43, 44, 45, 46, 47, 48, 49] (by decide +kernel) (by decide +kernel)
set_option maxRecDepth 20000 in
theorem gX9_sharesFreely_X9_of : GoodIn wsX9_sharesFreely (wsV RX9 77 RX9 yX9_of wsX9_of) := goodIn_app (goodIn_of _ (by decide +kernel)) ggX9_sharesFreely_X9_of
set_option maxRecDepth 20000 in
theorem ggX9_sharesFreely_X9_least : GoodIn wsX9_sharesFreely wsX9_least := goodIn_r _ [19, 20, 21, 8, 9, 10, 6, 11, 12, 26, 27, 28, 29, 30, 31, 32, 33, 34, 35, 36, 37, 38, 39, 40, 41, 42, 43, 44, 45, 46, 47, 48, 49] (by decide +kernel) (by decide +kernel)
set_option maxRecDepth 20000 in
theorem gX9_sharesFreely_X9_least : GoodIn wsX9_sharesFreely (wsV RX9 108 RX9 yX9_least wsX9_least) := goodIn_app (goodIn_of _ (by decide +kernel)) ggX9_sharesFreely_X9_least
set_option maxRecDepth 20000 in
theorem ggX9_sharesFreely_X9_fixes : GoodIn wsX9_sharesFreely wsX9_fixes := goodIn_r _ [25, 2, 1, 3, 4, 5, 6, 7, 8, 9, 10, 11, 12, 13, 14, 15, 16, 17, 18, 19, 20, 21, 26, 27, 28, 29, 30, 31, 32, 33, 34, 35, 36, 37, 38, 39, 40, 41, 42, 43, 44, 45, 46, 47, 48, 49] (by decide +kernel) (by decide +kernel)
set_option maxRecDepth 20000 in
theorem gX9_sharesFreely_X9_fixes : GoodIn wsX9_sharesFreely (wsV RX9 111 RX9 yX9_fixes wsX9_fixes) := goodIn_app (goodIn_of _ (by decide +kernel)) ggX9_sharesFreely_X9_fixes
theorem dX9_sharesFreely_0 : decode cX9_sharesFreely 0 = .ok (.iload_n 3, 1) := by decide +kernel
theorem dX9_sharesFreely_1 : decode cX9_sharesFreely 1 = .ok (.istore 4, 2) := by decide +kernel
theorem dX9_sharesFreely_3 : decode cX9_sharesFreely 3 = .ok (.iconst 0, 1) := by decide +kernel
theorem dX9_sharesFreely_4 : decode cX9_sharesFreely 4 = .ok (.istore 5, 2) := by decide +kernel
theorem dX9_sharesFreely_6 : decode cX9_sharesFreely 6 = .ok (.iload 5, 2) := by decide +kernel
theorem dX9_sharesFreely_8 : decode cX9_sharesFreely 8 = .ok (.iload_n 2, 1) := by decide +kernel
theorem dX9_sharesFreely_9 : decode cX9_sharesFreely 9 = .ok (.if_icmp .ge 17, 3) := by decide +kernel
theorem dX9_sharesFreely_12 : decode cX9_sharesFreely 12 = .ok (.aload_n 0, 1) := by decide +kernel
theorem dX9_sharesFreely_13 : decode cX9_sharesFreely 13 = .ok (.getfield 52, 3) := by decide +kernel
theorem dX9_sharesFreely_16 : decode cX9_sharesFreely 16 = .ok (.iload 5, 2) := by decide +kernel
theorem dX9_sharesFreely_18 : decode cX9_sharesFreely 18 = .ok (.iconst 0, 1) := by decide +kernel
theorem dX9_sharesFreely_19 : decode cX9_sharesFreely 19 = .ok (.iastore, 1) := by decide +kernel
theorem dX9_sharesFreely_20 : decode cX9_sharesFreely 20 = .ok (.iinc 5 1, 3) := by decide +kernel
theorem dX9_sharesFreely_23 : decode cX9_sharesFreely 23 = .ok (.goto (-17), 3) := by decide +kernel
theorem dX9_sharesFreely_26 : decode cX9_sharesFreely 26 = .ok (.iconst 1, 1) := by decide +kernel
theorem dX9_sharesFreely_27 : decode cX9_sharesFreely 27 = .ok (.istore 5, 2) := by decide +kernel
theorem dX9_sharesFreely_29 : decode cX9_sharesFreely 29 = .ok (.iload 5, 2) := by decide +kernel
theorem dX9_sharesFreely_31 : decode cX9_sharesFreely 31 = .ok (.ifCond .le 123, 3) := by decide +kernel
theorem dX9_sharesFreely_34 : decode cX9_sharesFreely 34 = .ok (.lconst 0, 1) := by decide +kernel
theorem dX9_sharesFreely_35 : decode cX9_sharesFreely 35 = .ok (.lstore 6, 2) := by decide +kernel
theorem dX9_sharesFreely_37 : decode cX9_sharesFreely 37 = .ok (.iload_n 3, 1) := by decide +kernel
theorem dX9_sharesFreely_38 : decode cX9_sharesFreely 38 = .ok (.istore 4, 2) := by decide +kernel
theorem dX9_sharesFreely_40 : decode cX9_sharesFreely 40 = .ok (.iconst 0, 1) := by decide +kernel
theorem dX9_sharesFreely_41 : decode cX9_sharesFreely 41 = .ok (.istore 8, 2) := by decide +kernel
theorem dX9_sharesFreely_43 : decode cX9_sharesFreely 43 = .ok (.iload 8, 2) := by decide +kernel
theorem dX9_sharesFreely_45 : decode cX9_sharesFreely 45 = .ok (.iload_n 2, 1) := by decide +kernel
theorem dX9_sharesFreely_46 : decode cX9_sharesFreely 46 = .ok (.if_icmp .ge 93, 3) := by decide +kernel
theorem dX9_sharesFreely_49 : decode cX9_sharesFreely 49 = .ok (.aload_n 0, 1) := by decide +kernel
theorem dX9_sharesFreely_50 : decode cX9_sharesFreely 50 = .ok (.iload_n 1, 1) := by decide +kernel
theorem dX9_sharesFreely_51 : decode cX9_sharesFreely 51 = .ok (.iload 8, 2) := by decide +kernel
theorem dX9_sharesFreely_53 : decode cX9_sharesFreely 53 = .ok (.invokevirtual 105, 3) := by decide +kernel
theorem dX9_sharesFreely_56 : decode cX9_sharesFreely 56 = .ok (.istore 9, 2) := by decide +kernel
theorem dX9_sharesFreely_58 : decode cX9_sharesFreely 58 = .ok (.aload_n 0, 1) := by decide +kernel
theorem dX9_sharesFreely_59 : decode cX9_sharesFreely 59 = .ok (.getfield 52, 3) := by decide +kernel
theorem dX9_sharesFreely_62 : decode cX9_sharesFreely 62 = .ok (.iload 8, 2) := by decide +kernel
theorem dX9_sharesFreely_64 : decode cX9_sharesFreely 64 = .ok (.aload_n 0, 1) := by decide +kernel
theorem dX9_sharesFreely_65 : decode cX9_sharesFreely 65 = .ok (.getfield 52, 3) := by decide +kernel
theorem dX9_sharesFreely_68 : decode cX9_sharesFreely 68 = .ok (.iload 8, 2) := by decide +kernel
theorem dX9_sharesFreely_70 : decode cX9_sharesFreely 70 = .ok (.iaload, 1) := by decide +kernel
theorem dX9_sharesFreely_71 : decode cX9_sharesFreely 71 = .ok (.ifCond .le 7, 3) := by decide +kernel
theorem dX9_sharesFreely_74 : decode cX9_sharesFreely 74 = .ok (.iconst 1, 1) := by decide +kernel
theorem dX9_sharesFreely_75 : decode cX9_sharesFreely 75 = .ok (.goto 4, 3) := by decide +kernel
theorem dX9_sharesFreely_78 : decode cX9_sharesFreely 78 = .ok (.iconst 0, 1) := by decide +kernel
theorem dX9_sharesFreely_79 : decode cX9_sharesFreely 79 = .ok (.iastore, 1) := by decide +kernel
theorem dX9_sharesFreely_80 : decode cX9_sharesFreely 80 = .ok (.lload 6, 2) := by decide +kernel
theorem dX9_sharesFreely_82 : decode cX9_sharesFreely 82 = .ok (.aload_n 0, 1) := by decide +kernel
theorem dX9_sharesFreely_83 : decode cX9_sharesFreely 83 = .ok (.getfield 52, 3) := by decide +kernel
theorem dX9_sharesFreely_86 : decode cX9_sharesFreely 86 = .ok (.iload 8, 2) := by decide +kernel
theorem dX9_sharesFreely_88 : decode cX9_sharesFreely 88 = .ok (.iaload, 1) := by decide +kernel
theorem dX9_sharesFreely_89 : decode cX9_sharesFreely 89 = .ok (.ifCond .ne 14, 3) := by decide +kernel
theorem dX9_sharesFreely_92 : decode cX9_sharesFreely 92 = .ok (.aload_n 0, 1) := by decide +kernel
theorem dX9_sharesFreely_93 : decode cX9_sharesFreely 93 = .ok (.iload 9, 2) := by decide +kernel
theorem dX9_sharesFreely_95 : decode cX9_sharesFreely 95 = .ok (.iconst 3, 1) := by decide +kernel
theorem dX9_sharesFreely_96 : decode cX9_sharesFreely 96 = .ok (.invokevirtual 77, 3) := by decide +kernel
theorem dX9_sharesFreely_99 : decode cX9_sharesFreely 99 = .ok (.i2l, 1) := by decide +kernel
theorem dX9_sharesFreely_100 : decode cX9_sharesFreely 100 = .ok (.goto 4, 3) := by decide +kernel
theorem dX9_sharesFreely_103 : decode cX9_sharesFreely 103 = .ok (.lconst 0, 1) := by decide +kernel
theorem dX9_sharesFreely_104 : decode cX9_sharesFreely 104 = .ok (.ladd, 1) := by decide +kernel
theorem dX9_sharesFreely_105 : decode cX9_sharesFreely 105 = .ok (.lstore 6, 2) := by decide +kernel
theorem dX9_sharesFreely_107 : decode cX9_sharesFreely 107 = .ok (.iload 4, 2) := by decide +kernel
theorem dX9_sharesFreely_109 : decode cX9_sharesFreely 109 = .ok (.aload_n 0, 1) := by decide +kernel
theorem dX9_sharesFreely_110 : decode cX9_sharesFreely 110 = .ok (.getfield 52, 3) := by decide +kernel
theorem dX9_sharesFreely_113 : decode cX9_sharesFreely 113 = .ok (.iload 8, 2) := by decide +kernel
theorem dX9_sharesFreely_115 : decode cX9_sharesFreely 115 = .ok (.iaload, 1) := by decide +kernel
theorem dX9_sharesFreely_116 : decode cX9_sharesFreely 116 = .ok (.ifCond .ne 7, 3) := by decide +kernel
theorem dX9_sharesFreely_119 : decode cX9_sharesFreely 119 = .ok (.iconst 0, 1) := by decide +kernel
theorem dX9_sharesFreely_120 : decode cX9_sharesFreely 120 = .ok (.goto 10, 3) := by decide +kernel
theorem dX9_sharesFreely_123 : decode cX9_sharesFreely 123 = .ok (.aload_n 0, 1) := by decide +kernel
theorem dX9_sharesFreely_124 : decode cX9_sharesFreely 124 = .ok (.iload_n 1, 1) := by decide +kernel
theorem dX9_sharesFreely_125 : decode cX9_sharesFreely 125 = .ok (.iload 9, 2) := by decide +kernel
theorem dX9_sharesFreely_127 : decode cX9_sharesFreely 127 = .ok (.invokevirtual 108, 3) := by decide +kernel
theorem dX9_sharesFreely_130 : decode cX9_sharesFreely 130 = .ok (.isub, 1) := by decide +kernel
theorem dX9_sharesFreely_131 : decode cX9_sharesFreely 131 = .ok (.istore 4, 2) := by decide +kernel
theorem dX9_sharesFreely_133 : decode cX9_sharesFreely 133 = .ok (.iinc 8 1, 3) := by decide +kernel
theorem dX9_sharesFreely_136 : decode cX9_sharesFreely 136 = .ok (.goto (-93), 3) := by decide +kernel
theorem dX9_sharesFreely_139 : decode cX9_sharesFreely 139 = .ok (.aload_n 0, 1) := by decide +kernel
theorem dX9_sharesFreely_140 : decode cX9_sharesFreely 140 = .ok (.iload_n 1, 1) := by decide +kernel
theorem dX9_sharesFreely_141 : decode cX9_sharesFreely 141 = .ok (.iload_n 2, 1) := by decide +kernel
theorem dX9_sharesFreely_142 : decode cX9_sharesFreely 142 = .ok (.iload 4, 2) := by decide +kernel
theorem dX9_sharesFreely_144 : decode cX9_sharesFreely 144 = .ok (.lload 6, 2) := by decide +kernel
theorem dX9_sharesFreely_146 : decode cX9_sharesFreely 146 = .ok (.invokevirtual 111, 3) := by decide +kernel
theorem dX9_sharesFreely_149 : decode cX9_sharesFreely 149 = .ok (.istore 5, 2) := by decide +kernel
theorem dX9_sharesFreely_151 : decode cX9_sharesFreely 151 = .ok (.goto (-122), 3) := by decide +kernel
theorem dX9_sharesFreely_154 : decode cX9_sharesFreely 154 = .ok (.iconst 0, 1) := by decide +kernel
theorem dX9_sharesFreely_155 : decode cX9_sharesFreely 155 = .ok (.istore 6, 2) := by decide +kernel
theorem dX9_sharesFreely_157 : decode cX9_sharesFreely 157 = .ok (.iload 6, 2) := by decide +kernel
theorem dX9_sharesFreely_159 : decode cX9_sharesFreely 159 = .ok (.iload_n 2, 1) := by decide +kernel
theorem dX9_sharesFreely_160 : decode cX9_sharesFreely 160 = .ok (.if_icmp .ge 35, 3) := by decide +kernel
theorem dX9_sharesFreely_163 : decode cX9_sharesFreely 163 = .ok (.iload 4, 2) := by decide +kernel
theorem dX9_sharesFreely_165 : decode cX9_sharesFreely 165 = .ok (.aload_n 0, 1) := by decide +kernel
theorem dX9_sharesFreely_166 : decode cX9_sharesFreely 166 = .ok (.getfield 52, 3) := by decide +kernel
theorem dX9_sharesFreely_169 : decode cX9_sharesFreely 169 = .ok (.iload 6, 2) := by decide +kernel
theorem dX9_sharesFreely_171 : decode cX9_sharesFreely 171 = .ok (.iaload, 1) := by decide +kernel
theorem dX9_sharesFreely_172 : decode cX9_sharesFreely 172 = .ok (.ifCond .ne 13, 3) := by decide +kernel
theorem dX9_sharesFreely_175 : decode cX9_sharesFreely 175 = .ok (.aload_n 0, 1) := by decide +kernel
theorem dX9_sharesFreely_176 : decode cX9_sharesFreely 176 = .ok (.getfield 49, 3) := by decide +kernel
theorem dX9_sharesFreely_179 : decode cX9_sharesFreely 179 = .ok (.iload 6, 2) := by decide +kernel
theorem dX9_sharesFreely_181 : decode cX9_sharesFreely 181 = .ok (.iaload, 1) := by decide +kernel
theorem dX9_sharesFreely_182 : decode cX9_sharesFreely 182 = .ok (.goto 4, 3) := by decide +kernel
theorem dX9_sharesFreely_185 : decode cX9_sharesFreely 185 = .ok (.iconst 0, 1) := by decide +kernel
theorem dX9_sharesFreely_186 : decode cX9_sharesFreely 186 = .ok (.isub, 1) := by decide +kernel
theorem dX9_sharesFreely_187 : decode cX9_sharesFreely 187 = .ok (.istore 4, 2) := by decide +kernel
theorem dX9_sharesFreely_189 : decode cX9_sharesFreely 189 = .ok (.iinc 6 1, 3) := by decide +kernel
theorem dX9_sharesFreely_192 : decode cX9_sharesFreely 192 = .ok (.goto (-35), 3) := by decide +kernel
theorem dX9_sharesFreely_195 : decode cX9_sharesFreely 195 = .ok (.iconst 0, 1) := by decide +kernel
theorem dX9_sharesFreely_196 : decode cX9_sharesFreely 196 = .ok (.istore 6, 2) := by decide +kernel
theorem dX9_sharesFreely_198 : decode cX9_sharesFreely 198 = .ok (.iload 6, 2) := by decide +kernel
theorem dX9_sharesFreely_200 : decode cX9_sharesFreely 200 = .ok (.iload_n 2, 1) := by decide +kernel
theorem dX9_sharesFreely_201 : decode cX9_sharesFreely 201 = .ok (.if_icmp .ge 59, 3) := by decide +kernel
theorem dX9_sharesFreely_204 : decode cX9_sharesFreely 204 = .ok (.iload 4, 2) := by decide +kernel
theorem dX9_sharesFreely_206 : decode cX9_sharesFreely 206 = .ok (.ifCond .le 54, 3) := by decide +kernel
theorem dX9_sharesFreely_209 : decode cX9_sharesFreely 209 = .ok (.aload_n 0, 1) := by decide +kernel
theorem dX9_sharesFreely_210 : decode cX9_sharesFreely 210 = .ok (.getfield 49, 3) := by decide +kernel
theorem dX9_sharesFreely_213 : decode cX9_sharesFreely 213 = .ok (.iload 6, 2) := by decide +kernel
theorem dX9_sharesFreely_215 : decode cX9_sharesFreely 215 = .ok (.dup2, 1) := by decide +kernel
theorem dX9_sharesFreely_216 : decode cX9_sharesFreely 216 = .ok (.iaload, 1) := by decide +kernel
theorem dX9_sharesFreely_217 : decode cX9_sharesFreely 217 = .ok (.aload_n 0, 1) := by decide +kernel
theorem dX9_sharesFreely_218 : decode cX9_sharesFreely 218 = .ok (.getfield 52, 3) := by decide +kernel
theorem dX9_sharesFreely_221 : decode cX9_sharesFreely 221 = .ok (.iload 6, 2) := by decide +kernel
theorem dX9_sharesFreely_223 : decode cX9_sharesFreely 223 = .ok (.iaload, 1) := by decide +kernel
theorem dX9_sharesFreely_224 : decode cX9_sharesFreely 224 = .ok (.ifCond .ne 7, 3) := by decide +kernel
theorem dX9_sharesFreely_227 : decode cX9_sharesFreely 227 = .ok (.iconst 1, 1) := by decide +kernel
theorem dX9_sharesFreely_228 : decode cX9_sharesFreely 228 = .ok (.goto 4, 3) := by decide +kernel
theorem dX9_sharesFreely_231 : decode cX9_sharesFreely 231 = .ok (.iconst 0, 1) := by decide +kernel
theorem dX9_sharesFreely_232 : decode cX9_sharesFreely 232 = .ok (.iadd, 1) := by decide +kernel
theorem dX9_sharesFreely_233 : decode cX9_sharesFreely 233 = .ok (.iastore, 1) := by decide +kernel
theorem dX9_sharesFreely_234 : decode cX9_sharesFreely 234 = .ok (.iload 4, 2) := by decide +kernel
theorem dX9_sharesFreely_236 : decode cX9_sharesFreely 236 = .ok (.aload_n 0, 1) := by decide +kernel
theorem dX9_sharesFreely_237 : decode cX9_sharesFreely 237 = .ok (.getfield 52, 3) := by decide +kernel
theorem dX9_sharesFreely_240 : decode cX9_sharesFreely 240 = .ok (.iload 6, 2) := by decide +kernel
theorem dX9_sharesFreely_242 : decode cX9_sharesFreely 242 = .ok (.iaload, 1) := by decide +kernel
theorem dX9_sharesFreely_243 : decode cX9_sharesFreely 243 = .ok (.ifCond .ne 7, 3) := by decide +kernel
theorem dX9_sharesFreely_246 : decode cX9_sharesFreely 246 = .ok (.iconst 1, 1) := by decide +kernel
theorem dX9_sharesFreely_247 : decode cX9_sharesFreely 247 = .ok (.goto 4, 3) := by decide +kernel
theorem dX9_sharesFreely_250 : decode cX9_sharesFreely 250 = .ok (.iconst 0, 1) := by decide +kernel
theorem dX9_sharesFreely_251 : decode cX9_sharesFreely 251 = .ok (.isub, 1) := by decide +kernel
theorem dX9_sharesFreely_252 : decode cX9_sharesFreely 252 = .ok (.istore 4, 2) := by decide +kernel
theorem dX9_sharesFreely_254 : decode cX9_sharesFreely 254 = .ok (.iinc 6 1, 3) := by decide +kernel
theorem dX9_sharesFreely_257 : decode cX9_sharesFreely 257 = .ok (.goto (-59), 3) := by decide +kernel
theorem dX9_sharesFreely_260 : decode cX9_sharesFreely 260 = .ok (.return_, 1) := by decide +kernel
theorem hin_X9_sharesFreely_X9 : ∀ w ∈ wsX90, w ∈ wsX9_sharesFreely := by decide +kernel
theorem lk_X9_sharesFreely_52 : Cond.fieldLink RX9 52 RX9 "fixed" "[I" ∈ wsX9_sharesFreely := by decide +kernel
theorem lk_X9_sharesFreely_49 : Cond.fieldLink RX9 49 RX9 "share" "[I" ∈ wsX9_sharesFreely := by decide +kernel
theorem m_sharesFreely (hG : GP G) (hM : MoS S r) {N : Int} (hB : TB N T) (hN : N ≤ 1073740000) (hR : R32Z Z) {q s a : Int} {m : Nat} (hs : 0 ≤ s ∧ s < 32) (hm : m ≤ 16) (ho : okSF T s m a Z) : Ct G l yX9_sharesFreely wsX9_sharesFreely 3 0 0 [.ref r, .int (I32 s), .int (I32 (m : Int)), .int (I32 a)] S n (lyM mu r T q Z) la (Dt none S n (lyM mu r T q (sfZ T s m a Z)) la) := by
  have o9 := hM.1
  have h14 := hM.2.2.2.2.2.2.2.1
  have h15 := hM.2.2.2.2.2.2.2.2.1
  obtain ⟨o1, o2⟩ := ho
  unfold sfZ
  have hRF := frG_R 18 (f0P_R hR m) o1
  unfold sfF at o2 ⊢
  generalize eF : frG T s m a 18 (f0P Z m) = F at o2 hRF
  refine Ct.ofV (cc := cX9_sharesFreely) (nL := 10) (ret := none) [some (.ref r), some (.int (I32 s)), some (.int (I32 (m : Int))), some (.int (I32 a)), none, none, none, none, none, none] hG (by decide) rfl (Nat.le_of_ble_eq_true rfl) rfl ?_
  rintro X rfl rfl C hcl hsl E
  have loop5 : ∀ (d : Nat) (k lf : Int) (Y : Mem) (v5 : Int) (w7 w8 w9 : Option Value), k + d = m → 0 ≤ k → (-1000000 ≤ lf ∧ lf ≤ 1000000) → R32Z Y → hwG d k lf Y = hwG m 0 (F.2 - smG (lfI F.1) m) F.1 → V X 198 [some (.ref r), some (.int (I32 s)), some (.int (I32 (m : Int))), some (.int (I32 a)), some (.int (I32 lf)), some (.int (I32 v5)), some (.int (I32 k)), w7, w8, w9] [] S n (lyM mu r T q Y) la 0 0 := by
    intro d
    induction d with
    | zero =>
      intro k lf Y v5 w7 w8 w9 h1 h2 h3 hY h4
      rw [hwG] at h4
      rw [← h4] at E
      refine V_iload C dX9_sharesFreely_198 rfl ?_
      refine V_iload_n C dX9_sharesFreely_200 rfl ?_
      refine V_icmp_ge C 260 dX9_sharesFreely_201 (by decide) (by omega) (by omega) (fun z201 => ?_) (fun z201 => ?_)
      · refine V_return C E dX9_sharesFreely_260 (by omega) (by omega) ?_
        exact Dt_rfl
      · exact absurd z201 (by first | omega | decide)
    | succ d ih =>
      intro k lf Y v5 w7 w8 w9 h1 h2 h3 hY h4
      rw [hwG] at h4
      have q15 := hY 15 k (by decide)
      refine V_iload C dX9_sharesFreely_198 rfl ?_
      refine V_iload_n C dX9_sharesFreely_200 rfl ?_
      refine V_icmp_ge C 260 dX9_sharesFreely_201 (by decide) (by omega) (by omega) (fun z1 => ?_) (fun z1 => ?_)
      · exact absurd z1 (by omega)
      · refine V_iload C dX9_sharesFreely_204 rfl ?_
        refine V_if_le C 260 dX9_sharesFreely_206 (by decide) (by omega) (fun z2 => ?_) (fun z2 => ?_)
        · rw [if_neg (by omega)] at h4
          rw [← h4] at E
          refine V_return C E dX9_sharesFreely_260 (by omega) (by omega) ?_
          exact Dt_rfl
        · rw [if_pos z2] at h4
          refine V_aload_n C dX9_sharesFreely_209 rfl ?_
          refine V_getR C 17 dX9_sharesFreely_210 o9 rfl hin_X9_sharesFreely_X9 (by decide) lk_X9_sharesFreely_49 rfl rfl ?_
          refine V_iload C dX9_sharesFreely_213 rfl ?_
          refine V_dup2 C dX9_sharesFreely_215 rfl rfl ?_
          refine V_ialdJ C dX9_sharesFreely_216 h14 (by first | assumption | decide) (by omega) (zM_k (by decide)) ?_
          refine V_aload_n C dX9_sharesFreely_217 rfl ?_
          refine V_getR C 18 dX9_sharesFreely_218 o9 rfl hin_X9_sharesFreely_X9 (by decide) lk_X9_sharesFreely_52 rfl rfl ?_
          refine V_iload C dX9_sharesFreely_221 rfl ?_
          refine V_ialdJ C dX9_sharesFreely_223 h15 (by first | assumption | decide) (by omega) (zM_k (by decide)) ?_
          refine V_if_ne C 231 dX9_sharesFreely_224 (by decide) (by omega) (fun z3 => ?_) (fun z3 => ?_)
          · rw [if_neg z3] at h4
            refine V_iconst C dX9_sharesFreely_231 ?_
            refine V_iadd C dX9_sharesFreely_232 ?_
            refine V_wr ?_
            refine V_iastJ C dX9_sharesFreely_233 h14 (by first | assumption | decide) (by omega) (zMu_k (by decide)) ?_
            refine V_iload C dX9_sharesFreely_234 rfl ?_
            refine V_aload_n C dX9_sharesFreely_236 rfl ?_
            refine V_getR C 18 dX9_sharesFreely_237 o9 rfl hin_X9_sharesFreely_X9 (by decide) lk_X9_sharesFreely_52 rfl rfl ?_
            refine V_iload C dX9_sharesFreely_240 rfl ?_
            refine V_ialdJ C dX9_sharesFreely_242 h15 (by first | assumption | decide) (by omega) ((zM_k (by decide)).trans (up_a _ _ _ _ (by decide))) ?_
            refine V_if_ne C 250 dX9_sharesFreely_243 (by decide) (by omega) (fun z4 => ?_) (fun z4 => ?_)
            · refine V_iconst C dX9_sharesFreely_250 ?_
              refine V_isub C dX9_sharesFreely_251 ?_
              refine V_istore C dX9_sharesFreely_252 rfl (by decide) ?_
              refine V_iinc C dX9_sharesFreely_254 rfl rfl (by decide) ?_
              refine V_goto C 198 dX9_sharesFreely_257 (by decide) ?_
              exact ih _ _ _ _ _ _ _ (by omega) (by omega) (by omega) (hY.upd 14 k (wr_b _)) h4
            · exact absurd z4 z3
          · rw [if_pos z3] at h4
            refine V_iconst C dX9_sharesFreely_227 ?_
            refine V_goto C 232 dX9_sharesFreely_228 (by decide) ?_
            refine V_iadd C dX9_sharesFreely_232 ?_
            refine V_wr ?_
            refine V_iastJ C dX9_sharesFreely_233 h14 (by first | assumption | decide) (by omega) (zMu_k (by decide)) ?_
            refine V_iload C dX9_sharesFreely_234 rfl ?_
            refine V_aload_n C dX9_sharesFreely_236 rfl ?_
            refine V_getR C 18 dX9_sharesFreely_237 o9 rfl hin_X9_sharesFreely_X9 (by decide) lk_X9_sharesFreely_52 rfl rfl ?_
            refine V_iload C dX9_sharesFreely_240 rfl ?_
            refine V_ialdJ C dX9_sharesFreely_242 h15 (by first | assumption | decide) (by omega) ((zM_k (by decide)).trans (up_a _ _ _ _ (by decide))) ?_
            refine V_if_ne C 250 dX9_sharesFreely_243 (by decide) (by omega) (fun z4 => ?_) (fun z4 => ?_)
            · exact absurd z3 z4
            · refine V_iconst C dX9_sharesFreely_246 ?_
              refine V_goto C 251 dX9_sharesFreely_247 (by decide) ?_
              refine V_isub C dX9_sharesFreely_251 ?_
              refine V_istore C dX9_sharesFreely_252 rfl (by decide) ?_
              refine V_iinc C dX9_sharesFreely_254 rfl rfl (by decide) ?_
              refine V_goto C 198 dX9_sharesFreely_257 (by decide) ?_
              exact ih _ _ _ _ _ _ _ (by omega) (by omega) (by omega) (hY.upd 14 k (wr_b _)) h4
  have loop4 : ∀ (d j : Nat) (v5 : Int) (w7 w8 w9 : Option Value), j + d = m → V X 157 [some (.ref r), some (.int (I32 s)), some (.int (I32 (m : Int))), some (.int (I32 a)), some (.int (I32 (F.2 - smG (lfI F.1) j))), some (.int (I32 v5)), some (.int (I32 (j : Int))), w7, w8, w9] [] S n (lyM mu r T q F.1) la 0 0 := by
    intro d
    induction d with
    | zero =>
      intro j v5 w7 w8 w9 h1
      have hj : j = m := by omega
      subst hj
      refine V_iload C dX9_sharesFreely_157 rfl ?_
      refine V_iload_n C dX9_sharesFreely_159 rfl ?_
      refine V_icmp_ge C 195 dX9_sharesFreely_160 (by decide) (by omega) (by omega) (fun z160 => ?_) (fun z160 => ?_)
      · refine V_iconst C dX9_sharesFreely_195 ?_
        refine V_istore C dX9_sharesFreely_196 rfl (by decide) ?_
        exact loop5 _ 0 _ _ _ _ _ _ (by omega) (by omega) o2 hRF rfl
      · exact absurd z160 (by first | omega | decide)
    | succ d ih =>
      intro j v5 w7 w8 w9 h1
      have h9 := fun v5 w7 w8 w9 => ih (j + 1) v5 w7 w8 w9 (by omega)
      rw [smG] at h9
      have q15 := hRF 15 j (by decide)
      refine V_iload C dX9_sharesFreely_157 rfl ?_
      refine V_iload_n C dX9_sharesFreely_159 rfl ?_
      refine V_icmp_ge C 195 dX9_sharesFreely_160 (by decide) (by omega) (by omega) (fun z1 => ?_) (fun z1 => ?_)
      · exact absurd z1 (by omega)
      · refine V_iload C dX9_sharesFreely_163 rfl ?_
        refine V_aload_n C dX9_sharesFreely_165 rfl ?_
        refine V_getR C 18 dX9_sharesFreely_166 o9 rfl hin_X9_sharesFreely_X9 (by decide) lk_X9_sharesFreely_52 rfl rfl ?_
        refine V_iload C dX9_sharesFreely_169 rfl ?_
        refine V_ialdJ C dX9_sharesFreely_171 h15 (by first | assumption | decide) (by omega) (zM_k (by decide)) ?_
        refine V_if_ne C 185 dX9_sharesFreely_172 (by decide) (by omega) (fun z2 => ?_) (fun z2 => ?_)
        · rw [show lfI F.1 j = 0 by unfold lfI; rw [if_neg z2]] at h9
          refine V_iconst C dX9_sharesFreely_185 ?_
          refine V_isub C dX9_sharesFreely_186 ?_
          rw [show F.2 - smG (lfI F.1) j - 0 = F.2 - (smG (lfI F.1) j + 0) by omega]
          refine V_istore C dX9_sharesFreely_187 rfl (by decide) ?_
          refine V_iinc C dX9_sharesFreely_189 rfl rfl (by decide) ?_
          refine V_goto C 157 dX9_sharesFreely_192 (by decide) ?_
          exact h9 _ _ _ _
        · rw [show lfI F.1 j = F.1 14 j by unfold lfI; rw [if_pos z2]] at h9
          refine V_aload_n C dX9_sharesFreely_175 rfl ?_
          refine V_getR C 17 dX9_sharesFreely_176 o9 rfl hin_X9_sharesFreely_X9 (by decide) lk_X9_sharesFreely_49 rfl rfl ?_
          refine V_iload C dX9_sharesFreely_179 rfl ?_
          refine V_ialdJ C dX9_sharesFreely_181 h14 (by first | assumption | decide) (by omega) (zM_k (by decide)) ?_
          refine V_goto C 186 dX9_sharesFreely_182 (by decide) ?_
          refine V_isub C dX9_sharesFreely_186 ?_
          rw [show F.2 - smG (lfI F.1) j - F.1 14 j = F.2 - (smG (lfI F.1) j + F.1 14 j) by omega]
          refine V_istore C dX9_sharesFreely_187 rfl (by decide) ?_
          refine V_iinc C dX9_sharesFreely_189 rfl rfl (by decide) ?_
          refine V_goto C 157 dX9_sharesFreely_192 (by decide) ?_
          exact h9 _ _ _ _
  have looks : ∀ (d : Nat) (more rm : Int) (Y : Mem) (w6 w7 w8 w9 : Option Value), (0 < more ∧ more ≤ 100) → R32Z Y → okR T s m a d Y → frG T s m a d Y = F → V X 29 [some (.ref r), some (.int (I32 s)), some (.int (I32 (m : Int))), some (.int (I32 a)), some (.int (I32 rm)), some (.int (I32 more)), w6, w7, w8, w9] [] S n (lyM mu r T q Y) la 0 0 := by
    intro d
    induction d with
    | zero =>
      intro more rm Y w6 w7 w8 w9 h1 h2 h3 h4
      exact h3.elim
    | succ d ih =>
      intro more rm Y w6 w7 w8 w9 h1 h2 h3 h4
      obtain ⟨p1, p2⟩ := h3
      rw [frG] at h4
      have hR1 := f1P_R h2 m
      have hR2 : R32Z (frS T Y s m a) := fxP_R hR1 p1 (Int.le_refl _)
      have inner : ∀ (e j : Nat) (w9 : Option Value), j + e = m → V X 43 [some (.ref r), some (.int (I32 s)), some (.int (I32 (m : Int))), some (.int (I32 a)), some (.int (I32 (a - smG (rmI T Y s) j))), some (.int (I32 more)), some (.long (I64 (smG (wtI T Y s) j))), none, some (.int (I32 (j : Int))), w9] [] S n (lyM mu r T q (f1P Y j)) la 0 0 := by
        intro e
        induction e with
        | zero =>
          intro j w9 k1
          have hj : j = m := by omega
          have bn := smG_b (ffx T (f1P Y m) s (rmF9 T Y s m a) (wtF T Y s m)) (ffx_b _ _ _ _ _) m
          have hgo : V X 149 [some (.ref r), some (.int (I32 s)), some (.int (I32 (m : Int))), some (.int (I32 a)), some (.int (I32 (rmF9 T Y s m a))), some (.int (I32 more)), some (.long (I64 (wtF T Y s m))), none, some (.int (I32 (m : Int))), w9] [.int (I32 (frN T Y s m a))] S n (lyM mu r T q (frS T Y s m a)) la 0 0 := by
            have bn : 0 ≤ frN T Y s m a ∧ frN T Y s m a ≤ m := bn
            by_cases hz : frN T Y s m a = 0
            · rw [if_pos hz] at h4
              rw [hz]
              refine V_istore C dX9_sharesFreely_149 rfl (by decide) ?_
              refine V_goto C 29 dX9_sharesFreely_151 (by decide) ?_
              refine V_iload C dX9_sharesFreely_29 rfl ?_
              refine V_if_le C 154 dX9_sharesFreely_31 (by decide) (by omega) (fun z1 => ?_) (fun z1 => ?_)
              · have e1 : frS T Y s m a = F.1 := by rw [← h4]
                have e2 : rmF9 T Y s m a = F.2 := by rw [← h4]
                have h8 := loop4 m 0 0 none (some (.int (I32 (m : Int)))) w9 (by omega)
                rw [smG, show F.2 - (0 : Int) = F.2 by omega] at h8
                rw [e1, e2]
                refine V_iconst C dX9_sharesFreely_154 ?_
                refine V_istore C dX9_sharesFreely_155 rfl (by decide) ?_
                exact h8
              · exact absurd z1 (by decide)
            · rw [if_neg hz] at h4
              refine V_istore C dX9_sharesFreely_149 rfl (by decide) ?_
              refine V_goto C 29 dX9_sharesFreely_151 (by decide) ?_
              exact ih _ _ _ _ _ _ _ (by omega) hR2 (p2 hz) h4
          subst hj
          refine V_iload C dX9_sharesFreely_43 rfl ?_
          refine V_iload_n C dX9_sharesFreely_45 rfl ?_
          refine V_icmp_ge C 139 dX9_sharesFreely_46 (by decide) (by omega) (by omega) (fun z1 => ?_) (fun z1 => ?_)
          · refine V_aload_n C dX9_sharesFreely_139 rfl ?_
            refine V_iload_n C dX9_sharesFreely_140 rfl ?_
            refine V_iload_n C dX9_sharesFreely_141 rfl ?_
            refine V_iload C dX9_sharesFreely_142 rfl ?_
            refine V_lload C dX9_sharesFreely_144 rfl ?_
            refine V_callVD (nA := 4) C dX9_sharesFreely_146 (m_fixes C.gp hM hB (by omega) hR1 hs hm p1) gX9_sharesFreely_X9_fixes rfl o9 rfl (by decide +kernel) rfl (by decide) (by decide) (Nat.le_of_ble_eq_true rfl) ⟨by omega, by omega⟩ rfl ?_
            exact hgo
          · exact absurd z1 (by omega)
        | succ e ihe =>
          intro j w9 k1
          have h9 := fun w9 => ihe (j + 1) w9 (by omega)
          rw [smG, smG, show ((j + 1 : Nat) : Int) = (j : Int) + 1 from rfl, ← f1P_s (by omega)] at h9
          have q15 := h2 15 j (by decide)
          have hc := p1.2.2.2 j (by omega)
          have hc2 := (chT_b T s j).2
          have e15 : f1P Y j 15 j = Y 15 j := f1P_hi _ _ _ (Int.le_refl _) _
          refine V_iload C dX9_sharesFreely_43 rfl ?_
          refine V_iload_n C dX9_sharesFreely_45 rfl ?_
          refine V_icmp_ge C 139 dX9_sharesFreely_46 (by decide) (by omega) (by omega) (fun z1 => ?_) (fun z1 => ?_)
          · exact absurd z1 (by omega)
          · refine V_aload_n C dX9_sharesFreely_49 rfl ?_
            refine V_iload_n C dX9_sharesFreely_50 rfl ?_
            refine V_iload C dX9_sharesFreely_51 rfl ?_
            refine V_callVD (nA := 2) C dX9_sharesFreely_53 (m_child C.gp hM hB (by omega) (by omega) (by omega)) gX9_sharesFreely_X9_child rfl o9 rfl (by decide +kernel) rfl (by decide) (by decide) (Nat.le_of_ble_eq_true rfl) ⟨by omega, by omega⟩ rfl ?_
            refine V_istore C dX9_sharesFreely_56 rfl (by decide) ?_
            refine V_aload_n C dX9_sharesFreely_58 rfl ?_
            refine V_getR C 18 dX9_sharesFreely_59 o9 rfl hin_X9_sharesFreely_X9 (by decide) lk_X9_sharesFreely_52 rfl rfl ?_
            refine V_iload C dX9_sharesFreely_62 rfl ?_
            refine V_aload_n C dX9_sharesFreely_64 rfl ?_
            refine V_getR C 18 dX9_sharesFreely_65 o9 rfl hin_X9_sharesFreely_X9 (by decide) lk_X9_sharesFreely_52 rfl rfl ?_
            refine V_iload C dX9_sharesFreely_68 rfl ?_
            refine V_ialdJ C dX9_sharesFreely_70 h15 (by first | assumption | decide) (by omega) ((zM_k (by decide)).trans e15) ?_
            refine V_if_le C 78 dX9_sharesFreely_71 (by decide) (by omega) (fun z2 => ?_) (fun z2 => ?_)
            · rw [if_neg (by omega), show wtI T Y s j = T 3 (chT T s j) by unfold wtI; rw [if_neg (by omega)], show rmI T Y s j = 0 by unfold rmI; rw [if_neg (by omega)]] at h9
              refine V_iconst C dX9_sharesFreely_78 ?_
              refine V_iastJ C dX9_sharesFreely_79 h15 (by first | assumption | decide) (by omega) (zMu_k (by decide)) ?_
              refine V_lload C dX9_sharesFreely_80 rfl ?_
              refine V_aload_n C dX9_sharesFreely_82 rfl ?_
              refine V_getR C 18 dX9_sharesFreely_83 o9 rfl hin_X9_sharesFreely_X9 (by decide) lk_X9_sharesFreely_52 rfl rfl ?_
              refine V_iload C dX9_sharesFreely_86 rfl ?_
              refine V_ialdJ C dX9_sharesFreely_88 h15 (by first | assumption | decide) (by omega) ((zM_k (by decide)).trans (up_s _ _ _ _)) ?_
              refine V_if_ne C 103 dX9_sharesFreely_89 (by decide) (by omega) (fun z3 => ?_) (fun z3 => ?_)
              · exact absurd rfl z3
              · refine V_aload_n C dX9_sharesFreely_92 rfl ?_
                refine V_iload C dX9_sharesFreely_93 rfl ?_
                refine V_iconst C dX9_sharesFreely_95 ?_
                refine V_callVD (nA := 2) C dX9_sharesFreely_96 (m_of C.gp hM (by omega) 3 (by decide) rfl) gX9_sharesFreely_X9_of rfl o9 rfl (by decide +kernel) rfl (by decide) (by decide) (Nat.le_of_ble_eq_true rfl) ⟨by omega, by omega⟩ rfl ?_
                refine V_i2l C dX9_sharesFreely_99 ?_
                rw [I64_32 (by omega)]
                refine V_goto C 104 dX9_sharesFreely_100 (by decide) ?_
                refine V_ladd C dX9_sharesFreely_104 ?_
                rw [I64_add]
                refine V_lstore C dX9_sharesFreely_105 rfl (by decide) ?_
                refine V_iload C dX9_sharesFreely_107 rfl ?_
                refine V_aload_n C dX9_sharesFreely_109 rfl ?_
                refine V_getR C 18 dX9_sharesFreely_110 o9 rfl hin_X9_sharesFreely_X9 (by decide) lk_X9_sharesFreely_52 rfl rfl ?_
                refine V_iload C dX9_sharesFreely_113 rfl ?_
                refine V_ialdJ C dX9_sharesFreely_115 h15 (by first | assumption | decide) (by omega) ((zM_k (by decide)).trans (up_s _ _ _ _)) ?_
                refine V_if_ne C 123 dX9_sharesFreely_116 (by decide) (by omega) (fun z4 => ?_) (fun z4 => ?_)
                · exact absurd rfl z4
                · refine V_iconst C dX9_sharesFreely_119 ?_
                  refine V_goto C 130 dX9_sharesFreely_120 (by decide) ?_
                  refine V_isub C dX9_sharesFreely_130 ?_
                  rw [show a - smG (rmI T Y s) j - 0 = a - (smG (rmI T Y s) j + 0) by omega]
                  refine V_istore C dX9_sharesFreely_131 rfl (by decide) ?_
                  refine V_iinc C dX9_sharesFreely_133 rfl rfl (by decide) ?_
                  refine V_goto C 43 dX9_sharesFreely_136 (by decide) ?_
                  exact h9 _
            · have eL : ltF T (up (f1P Y j) 15 j 1) s (chT T s j) = ltF T Y s (chT T s j) := by
                rw [← ltF_f1 T Y j s (chT T s j)]
                unfold ltF
                rw [up_a _ _ _ _ (by decide), up_a _ _ _ _ (by decide)]
              rw [if_pos (by omega), show wtI T Y s j = 0 by unfold wtI; rw [if_pos (by omega)], show rmI T Y s j = ltF T Y s (chT T s j) by unfold rmI; rw [if_pos (by omega)]] at h9
              refine V_iconst C dX9_sharesFreely_74 ?_
              refine V_goto C 79 dX9_sharesFreely_75 (by decide) ?_
              refine V_iastJ C dX9_sharesFreely_79 h15 (by first | assumption | decide) (by omega) (zMu_k (by decide)) ?_
              refine V_lload C dX9_sharesFreely_80 rfl ?_
              refine V_aload_n C dX9_sharesFreely_82 rfl ?_
              refine V_getR C 18 dX9_sharesFreely_83 o9 rfl hin_X9_sharesFreely_X9 (by decide) lk_X9_sharesFreely_52 rfl rfl ?_
              refine V_iload C dX9_sharesFreely_86 rfl ?_
              refine V_ialdJ C dX9_sharesFreely_88 h15 (by first | assumption | decide) (by omega) ((zM_k (by decide)).trans (up_s _ _ _ _)) ?_
              refine V_if_ne C 103 dX9_sharesFreely_89 (by decide) (by omega) (fun z3 => ?_) (fun z3 => ?_)
              · refine V_lconst C dX9_sharesFreely_103 rfl ?_
                refine V_ladd C dX9_sharesFreely_104 ?_
                rw [show I64 (smG (wtI T Y s) j) + Int64.ofNat ((0 : Fin 2) : Nat) = I64 (smG (wtI T Y s) j + 0) by rw [show Int64.ofNat ((0 : Fin 2) : Nat) = I64 0 from rfl, I64_add]]
                refine V_lstore C dX9_sharesFreely_105 rfl (by decide) ?_
                refine V_iload C dX9_sharesFreely_107 rfl ?_
                refine V_aload_n C dX9_sharesFreely_109 rfl ?_
                refine V_getR C 18 dX9_sharesFreely_110 o9 rfl hin_X9_sharesFreely_X9 (by decide) lk_X9_sharesFreely_52 rfl rfl ?_
                refine V_iload C dX9_sharesFreely_113 rfl ?_
                refine V_ialdJ C dX9_sharesFreely_115 h15 (by first | assumption | decide) (by omega) ((zM_k (by decide)).trans (up_s _ _ _ _)) ?_
                refine V_if_ne C 123 dX9_sharesFreely_116 (by decide) (by omega) (fun z4 => ?_) (fun z4 => ?_)
                · refine V_aload_n C dX9_sharesFreely_123 rfl ?_
                  refine V_iload_n C dX9_sharesFreely_124 rfl ?_
                  refine V_iload C dX9_sharesFreely_125 rfl ?_
                  refine V_callVD (nA := 2) C dX9_sharesFreely_127 (m_least C.gp hM hB (by omega) hs (by omega)) gX9_sharesFreely_X9_least rfl o9 rfl (by decide +kernel) rfl (by decide) (by decide) (Nat.le_of_ble_eq_true rfl) ⟨by omega, by omega⟩ rfl ?_
                  rw [eL]
                  refine V_isub C dX9_sharesFreely_130 ?_
                  rw [show a - smG (rmI T Y s) j - ltF T Y s (chT T s j) = a - (smG (rmI T Y s) j + ltF T Y s (chT T s j)) by omega]
                  refine V_istore C dX9_sharesFreely_131 rfl (by decide) ?_
                  refine V_iinc C dX9_sharesFreely_133 rfl rfl (by decide) ?_
                  refine V_goto C 43 dX9_sharesFreely_136 (by decide) ?_
                  exact h9 _
                · exact absurd z4 (by decide)
              · exact absurd z3 (by decide)
      refine V_iload C dX9_sharesFreely_29 rfl ?_
      refine V_if_le C 154 dX9_sharesFreely_31 (by decide) (by omega) (fun z1 => ?_) (fun z1 => ?_)
      · exact absurd z1 (by omega)
      · refine V_lconst C dX9_sharesFreely_34 rfl ?_
        refine V_lstore C dX9_sharesFreely_35 rfl (by decide) ?_
        refine V_iload_n C dX9_sharesFreely_37 rfl ?_
        refine V_istore C dX9_sharesFreely_38 rfl (by decide) ?_
        refine V_iconst C dX9_sharesFreely_40 ?_
        refine V_istore C dX9_sharesFreely_41 rfl (by decide) ?_
        have h8 := inner m 0 w9 (by omega)
        rw [smG, smG, show ((0 : Nat) : Int) = 0 from rfl, f1P_0, show a - (0 : Int) = a by omega] at h8
        exact h8
  have loop0 : ∀ (d : Nat) (j : Int) , j + d = m → 0 ≤ j → V X 6 [some (.ref r), some (.int (I32 s)), some (.int (I32 (m : Int))), some (.int (I32 a)), some (.int (I32 a)), some (.int (I32 j)), none, none, none, none] [] S n (lyM mu r T q (f0P Z j)) la 0 0 := by
    intro d
    induction d with
    | zero =>
      intro j h1 h2
      have hj : j = m := by omega
      subst hj
      refine V_iload C dX9_sharesFreely_6 rfl ?_
      refine V_iload_n C dX9_sharesFreely_8 rfl ?_
      refine V_icmp_ge C 26 dX9_sharesFreely_9 (by decide) (by omega) (by omega) (fun z9 => ?_) (fun z9 => ?_)
      · refine V_iconst C dX9_sharesFreely_26 ?_
        refine V_istore C dX9_sharesFreely_27 rfl (by decide) ?_
        exact looks 18 1 a _ _ _ _ _ (by omega) (f0P_R hR m) o1 eF
      · exact absurd z9 (by first | omega | decide)
    | succ d ih =>
      intro j h1 h2
      have h9 := ih (j + 1) (by omega) (by omega)
      refine V_iload C dX9_sharesFreely_6 rfl ?_
      refine V_iload_n C dX9_sharesFreely_8 rfl ?_
      refine V_icmp_ge C 26 dX9_sharesFreely_9 (by decide) (by omega) (by omega) (fun z9 => ?_) (fun z9 => ?_)
      · exact absurd z9 (by first | omega | decide)
      · refine V_aload_n C dX9_sharesFreely_12 rfl ?_
        refine V_getR C 18 dX9_sharesFreely_13 o9 rfl hin_X9_sharesFreely_X9 (by decide) lk_X9_sharesFreely_52 rfl rfl ?_
        refine V_iload C dX9_sharesFreely_16 rfl ?_
        refine V_iconst C dX9_sharesFreely_18 ?_
        refine V_iastJ C dX9_sharesFreely_19 h15 (by first | assumption | decide) (by omega) ((zMu_k (by decide)).trans (by rw [f0P_s h2])) ?_
        refine V_iinc C dX9_sharesFreely_20 rfl rfl (by decide) ?_
        refine V_goto C 6 dX9_sharesFreely_23 (by decide) ?_
        exact h9
  refine V_iload_n C dX9_sharesFreely_0 rfl ?_
  refine V_istore C dX9_sharesFreely_1 rfl (by decide) ?_
  refine V_iconst C dX9_sharesFreely_3 ?_
  refine V_istore C dX9_sharesFreely_4 rfl (by decide) ?_
  have h := loop0 m 0 (by omega) (by omega)
  rw [f0P_0] at h
  exact h
end M8
