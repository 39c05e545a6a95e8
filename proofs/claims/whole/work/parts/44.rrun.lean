/-! THE REFERENCE: running a text -/
def nbT (mu : Mem) (r : Nat) (k : Int) : Int := mu (r + 16) k
/-- what a command would throw, and the memory behind it; v is its word -/
def dsF (mu : Mem) (r : Nat) (v : Int) : Int :=
  if v = 1885433445 then adF (mu (r + 1) 2) (mu (r + 16) 0) (mu (r + 16) 1) else if v = 1701078885 then egF (mu (r + 1) 2) (mu (r + 16) 0) (mu (r + 16) 1) else
    if v = 1685021547 then mcF (trT mu r) (mu (r + 1) 2) (mu (r + 16) 0) (mu (r + 16) 1) (mu (r + 16) 2) else if v = 439905902964 then flF9 (mu (r + 1) 2) (mu (r + 16) 0) (mu (r + 16) 1) (mu (r + 16) 2) (mu (r + 16) 3) (mu (r + 16) 4) else
      if v = 427021005669 then clF (mu (r + 1) 2) (mu (r + 16) 0) else if v = 495672455781 then wgF (trT mu r) (mu (r + 1) 2) (mu (r + 16) 0) (mu (r + 16) 1) else if v = 1935767141 then svF (mu (r + 16) 0) else brF mu r (mu (r + 16) 0)
def dsM (mu : Mem) (r : Nat) (v : Int) : Mem :=
  if v = 1885433445 then adM mu r (trT mu r) (mu (r + 16) 0) (mu (r + 16) 1) else if v = 1701078885 then ptT (up mu r 19 (ctT (egC (trT mu r) (mu (r + 1) 2) (mu (r + 16) 0) (mu (r + 16) 1)) 1)) r (egC (trT mu r) (mu (r + 1) 2) (mu (r + 16) 0) (mu (r + 16) 1)) else
    if v = 1685021547 then ptT (up mu r 19 (dkA (trT mu r) (mu (r + 1) 2) (mu (r + 16) 0) (mu (r + 16) 1) (mu (r + 16) 2))) r (dkT (trT mu r) (mu (r + 1) 2) (mu (r + 16) 0) (mu (r + 16) 1) (mu (r + 16) 2)) else
      if v = 439905902964 then ptT (up mu r 19 (ctT (tkT (trT mu r) (mu (r + 1) 2) (mu (r + 16) 0)) 4 + 1)) r (flT (trT mu r) (mu (r + 1) 2) (mu (r + 16) 0) (mu (r + 16) 1) (mu (r + 16) 2) (mu (r + 16) 3) (mu (r + 16) 4)) else
        if v = 427021005669 then ptT (up mu r 19 (sxT (trT mu r) (mu (r + 16) 0))) r (tkT (trT mu r) (mu (r + 1) 2) (mu (r + 16) 0)) else if v = 495672455781 then ptT (up mu r 19 (trT mu r 3 (trT mu r 9 (mu (r + 16) 0)))) r (up (trT mu r) 3 (trT mu r 9 (mu (r + 16) 0)) (mu (r + 16) 1)) else
          if v = 1935767141 then svB mu r (trT mu r) (mu (r + 16) 0) else brB mu r (mu (r + 16) 0)
def dsO (mu : Mem) (r : Nat) (v : Int) : Prop :=
  (v = 1701078885 → egF (mu (r + 1) 2) (mu (r + 16) 0) (mu (r + 16) 1) = 0 → okE (trT mu r) (mu (r + 1) 2) (mu (r + 16) 0) (mu (r + 16) 1)) ∧
  (v = 1685021547 → mcF (trT mu r) (mu (r + 1) 2) (mu (r + 16) 0) (mu (r + 16) 1) (mu (r + 16) 2) = 0 → okD (trT mu r) (mu (r + 1) 2) (mu (r + 16) 0) (mu (r + 16) 1) (mu (r + 16) 2)) ∧
  (v = 439905902964 → flF9 (mu (r + 1) 2) (mu (r + 16) 0) (mu (r + 16) 1) (mu (r + 16) 2) (mu (r + 16) 3) (mu (r + 16) 4) = 0 → okF (trT mu r) (mu (r + 1) 2) (mu (r + 16) 0)) ∧
  (v = 427021005669 → clF (mu (r + 1) 2) (mu (r + 16) 0) = 0 → okT (trT mu r) (mu (r + 1) 2) (mu (r + 16) 0))
theorem dsF_b (mu : Mem) (r : Nat) (v : Int) : 0 ≤ dsF mu r v ∧ dsF mu r v ≤ 3 := by
  unfold dsF adF egF mcF flF9 clF wgF svF brF
  (repeat' split) <;> omega
/-- the fault of a text, from spot c on: (fault, spot, word, numbers) -/
def fqG (mu : Mem) (r : Nat) : Nat → Int → Int64 × (Int → Int) → Int × Int × Int64 × (Int → Int)
  | 0, c, x => (-1, c, x.1, x.2)
  | d + 1, c, x => if c < mu r 6 then (if (cmF mu r c x.2).1 = 1 then fqG mu r d (cmF mu r c x.2).2.1 (I64 (cmF mu r c x.2).2.2.1, (cmF mu r c x.2).2.2.2) else ((cmF mu r c x.2).2.1, (cmF mu r c x.2).2.1, I64 (cmF mu r c x.2).2.2.1, (cmF mu r c x.2).2.2.2)) else (-1, c, x.1, x.2)
def fqF (mu : Mem) (r : Nat) (W : Int64) : Int × Int × Int64 × (Int → Int) := fqG mu r 151 (kF mu r 0) (W, mu (r + 16))
theorem upl_self (la : Lam) (a i : Nat) : upl la a i (la a i) = la := by
  funext b j
  unfold upl
  split
  · rename_i h; rw [h.1, h.2]
  · rfl
theorem rgG_v (mu : Mem) (r : Nat) : ∀ (d : Nat) (c v : Int), 0 ≤ v → 0 ≤ (rgG mu r d c v).2 ∧ (rgG mu r d c v).2 + 1 ≤ (v + 1) * 10 ^ d
  | 0, c, v, h => by simp only [rgG]; omega
  | d + 1, c, v, h => by
    have hp : (1 : Int) ≤ 10 ^ d := by have := Int.pow_pos (n := 10) (m := d) (by decide); omega
    rw [rgG]
    split
    · rename_i z
      have z2 := rAt_2 z
      have h2 := rgG_v mu r d (c + 1) (10 * v + mu (r + 5) c - 48) (by omega)
      refine ⟨h2.1, Int.le_trans h2.2 ?_⟩
      rw [Int.pow_succ, Int.mul_comm (10 ^ d) 10, ← Int.mul_assoc]
      exact Int.mul_le_mul_of_nonneg_right (by omega) (by omega)
    · refine ⟨h, ?_⟩
      have h3 : (v + 1) * 1 ≤ (v + 1) * 10 ^ (d + 1) := Int.mul_le_mul_of_nonneg_left (by
        rw [Int.pow_succ]; omega) (by omega)
      dsimp only
      omega
theorem nmF_N (mu : Mem) (r : Nat) (k c : Int) {N : Int → Int} (h : NB N) : NB (nmF mu r k c N).2.2 := by
  unfold nmF
  split
  · intro j
    have := rgG_v mu r 3 (kF mu r c) 0 (by omega)
    have := h j
    dsimp only
    split <;> omega
  · exact h
theorem nlG_N (mu : Mem) (r : Nat) : ∀ (d : Nat) (k c : Int) {N : Int → Int}, NB N → NB (nlG mu r d k c N).2.2
  | 0, k, c, N, h => h
  | d + 1, k, c, N, h => by
    rw [nlG]
    split
    · exact nlG_N mu r d _ _ (nmF_N mu r k c h)
    · exact nmF_N mu r k c h
theorem cmF_N (mu : Mem) (r : Nat) (c : Int) {N : Int → Int} (h : NB N) : NB (cmF mu r c N).2.2.2 := by
  unfold cmF
  split
  · unfold cmA
    have := nlG_N mu r (mnF (wvF9 mu r c)).toNat 0 (wcF mu r c) h
    split
    · split
      · exact this
      · exact this
    · exact this
  · exact h
theorem cmF_v (mu : Mem) (r : Nat) (c : Int) (N : Int → Int) : 0 ≤ (cmF mu r c N).2.2.1 ∧ (cmF mu r c N).2.2.1 < 1099511627776 := by
  have h := wvF9_b mu r c
  unfold cmF
  split
  · unfold cmA
    split
    · split
      · exact h
      · exact h
    · exact h
  · exact h
theorem fqG_b (mu : Mem) (r : Nat) : ∀ (d : Nat) (c : Int) (x : Int64 × (Int → Int)), 0 ≤ c ∧ c ≤ mu r 6 → NB x.2 → (-1 ≤ (fqG mu r d c x).1 ∧ (fqG mu r d c x).1 ≤ mu r 6) ∧ (0 ≤ (fqG mu r d c x).2.1 ∧ (fqG mu r d c x).2.1 ≤ mu r 6) ∧ NB (fqG mu r d c x).2.2.2
  | 0, c, x, h, hN => by
    rw [fqG]
    exact ⟨⟨by show (-1 : Int) ≤ -1; omega, by show (-1 : Int) ≤ _; omega⟩, h, hN⟩
  | d + 1, c, x, h, hN => by
    have b := cmF_b mu r x.2 h
    have bN := cmF_N mu r c hN
    rw [fqG]
    split
    · split
      · exact fqG_b mu r d _ _ (by omega) bN
      · exact ⟨⟨by dsimp only; omega, by dsimp only; omega⟩, ⟨by dsimp only; omega, by dsimp only; omega⟩, bN⟩
    · exact ⟨⟨by show (-1 : Int) ≤ -1; omega, by show (-1 : Int) ≤ _; omega⟩, h, hN⟩
theorem mx_t {mu : Mem} {r : Nat} {c : Int} {N : Int → Int} : trT (mxM mu r c N) r = trT mu r := by
  funext w i
  unfold trT
  rw [mx_a (by omega) (by omega), mx_a (by omega) (by omega), mx_a (by omega) (by omega)]
theorem mx_W {mu : Mem} {r : Nat} {c : Int} {N : Int → Int} (hW : MWo mu r) (hc : -2147483648 ≤ c ∧ c ≤ 2147483647) (hN : NB N) : MWo (mxM mu r c N) r := by
  obtain ⟨w1, w2, w3, w4, w5⟩ := hW
  refine ⟨fun a i => ?_, by rw [mx_t]; exact w2, by rw [mx_a (by omega) (by omega)]; exact w3, by rw [mx_r (by decide)]; exact w4, by rw [mx_r (by decide)]; exact w5⟩
  unfold mxM
  (repeat' split) <;> first | assumption | exact hN i | exact w1 a i
theorem hd_W {mu : Mem} {r : Nat} (hW : MWo mu r) : MWo (hdM mu r) r := by
  obtain ⟨w1, w2, w3, w4, w5⟩ := hW
  exact ⟨hdM_R w1 r, by rw [show trT (hdM mu r) r = trT mu r from cpF_hold]; exact w2, by rw [hdM_1]; exact w3, by rw [hdM_r]; exact w4, by rw [hdM_r]; exact w5⟩
theorem dsM_r (mu : Mem) (r : Nat) (v : Int) {i : Int} (h : i ≠ 19) : dsM mu r v r i = mu r i := by
  unfold dsM
  (repeat' split)
  · unfold adM adB; rw [pt_r, up_a _ _ _ _ (by omega), up_a _ _ _ _ (by omega), up_a _ _ _ _ (by omega), up_i _ _ _ h]
  · rw [pt_r, up_i _ _ _ h]
  · rw [pt_r, up_i _ _ _ h]
  · rw [pt_r, up_i _ _ _ h]
  · rw [pt_r, up_i _ _ _ h]
  · rw [pt_r, up_i _ _ _ h]
  · unfold svB svP; rw [if_neg (by omega), up_a _ _ _ _ (by omega), pt_r, up_i _ _ _ h]
  · unfold brB; rw [pt_r, up_i _ _ _ h]
/-- the run: (how many, memory, word) -/
abbrev rx1 (m : Mem) (r : Nat) : Rx := cmF m r (m r 20) (m (r + 16))
abbrev rm1 (m : Mem) (r : Nat) : Mem := mxM m r (rx1 m r).2.1 (rx1 m r).2.2.2
def rrG (r : Nat) : Nat → Mem → Int64 → Int → Int × Mem × Int64
  | 0, m, W, n => (n, m, W)
  | d + 1, m, W, n => if m r 20 < m r 6 then (if (rx1 m r).1 = 1 then (if dsF (rm1 m r) r (rx1 m r).2.2.1 = 0 then rrG r d (dsM (rm1 m r) r (rx1 m r).2.2.1) (I64 (rx1 m r).2.2.1) (n + 1) else (n, rm1 m r, I64 (rx1 m r).2.2.1)) else (n, rm1 m r, I64 (rx1 m r).2.2.1)) else (n, m, W)
def rf1 (mu : Mem) (r : Nat) (W : Int64) : Mem := mxM mu r (fqF mu r W).2.1 (fqF mu r W).2.2.2
def rr0 (mu : Mem) (r : Nat) (W : Int64) : Mem := mxM (hdM (rf1 mu r W) r) r (kF (hdM (rf1 mu r W) r) r 0) (hdM (rf1 mu r W) r (r + 16))
section MF
variable {G : Gx} {l : Launch} {S : Sh} {n : Nat} {mu : Mem} {la : Lam} {r : Nat}
set_option maxRecDepth 20000 in
theorem ggX9_does_X9_adds : GoodIn wsX9_does wsX9_adds := goodIn_r _ [14, 15, 16, 17, 18, 13, 19, 132, 133, 134, 135, 136, 137, 138, 139, 140, 141, 142, 143, 144, 145, 146, 147, 148, 149, 150, 151, 152, 153, 154, 155] (by decide +kernel) (by decide +kernel)
set_option maxRecDepth 20000 in
theorem gX9_does_X9_adds : GoodIn wsX9_does (wsV RX9 197 RX9 yX9_adds wsX9_adds) := goodIn_app (goodIn_of _ (by decide +kernel)) ggX9_does_X9_adds
set_option maxRecDepth 20000 in
theorem ggX9_does_X9_edges : GoodIn wsX9_does wsX9_edges := goodIn_s _ [(23, 1), (16, 1), (24, 3), (13, 1), (27, 1), (15, 1), (17, 3), (28, 67), (132, 24)] (by rfl) (by decide +kernel)
set_option maxRecDepth 20000 in
theorem gX9_does_X9_edges : GoodIn wsX9_does (wsV RX9 206 RX9 yX9_edges wsX9_edges) := goodIn_app (goodIn_of _ (by decide +kernel)) ggX9_does_X9_edges
set_option maxRecDepth 20000 in
theorem ggX9_does_X9_docksAt : GoodIn wsX9_does wsX9_docksAt := goodIn_s _ [(98, 4), (13, 1), (102, 1), (24, 4), (15, 1), (17, 3), (103, 4), (32, 4), (48, 4), (107, 4), (16, 1), (28, 4), (36, 12), (52, 16), (72, 19), (132, 24)] (by rfl) (by decide +kernel)
set_option maxRecDepth 20000 in
theorem gX9_does_X9_docksAt : GoodIn wsX9_does (wsV RX9 203 RX9 yX9_docksAt wsX9_docksAt) := goodIn_app (goodIn_of _ (by decide +kernel)) ggX9_does_X9_docksAt
set_option maxRecDepth 20000 in
theorem ggX9_does_X9_floats : GoodIn wsX9_does wsX9_floats := goodIn_r _ [114, 16, 24, 25, 26, 13, 27, 15, 17, 18, 19, 28, 29, 30, 31, 32, 33, 34, 35, 36, 37, 38, 39, 40, 41, 42, 43, 44, 45, 46, 47, 48, 49, 50, 51, 52, 53, 54, 55, 56, 57, 58, 59, 60, 61, 62, 63, 64, 65, 66, 67, 91, 92, 93, 94, 72, 73, 74, 75, 76, 77, 78, 79, 132, 133, 134, 135, 136, 137, 138, 139, 140, 141, 142, 143, 144, 145, 146, 147, 148, 149, 150, 151, 152, 153, 154, 155] (by decide +kernel) (by decide +kernel)
set_option maxRecDepth 20000 in
theorem gX9_does_X9_floats : GoodIn wsX9_does (wsV RX9 209 RX9 yX9_floats wsX9_floats) := goodIn_app (goodIn_of _ (by decide +kernel)) ggX9_does_X9_floats
set_option maxRecDepth 20000 in
theorem ggX9_does_X9_closes : GoodIn wsX9_does wsX9_closes := goodIn_r _ [118, 16, 24, 25, 26, 13, 27, 15, 17, 18, 19, 103, 104, 105, 106, 32, 33, 34, 35, 48, 49, 50, 51, 28, 29, 30, 31, 36, 37, 38, 39, 40, 41, 42, 43, 44, 45, 46, 47, 52, 53, 54, 55, 56, 57, 58, 59, 60, 61, 62, 63, 64, 65, 66, 67, 132, 133, 134, 135, 136, 137, 138, 139, 140, 141, 142, 143, 144, 145, 146, 147, 148, 149, 150, 151, 152, 153, 154, 155] (by decide +kernel) (by decide +kernel)
set_option maxRecDepth 20000 in
theorem gX9_does_X9_closes : GoodIn wsX9_does (wsV RX9 213 RX9 yX9_closes wsX9_closes) := goodIn_app (goodIn_of _ (by decide +kernel)) ggX9_does_X9_closes
set_option maxRecDepth 20000 in
theorem ggX9_does_X9_weighs : GoodIn wsX9_does wsX9_weighs := goodIn_r _ [122, 123, 16, 24, 25, 26, 13, 27, 15, 17, 18, 19, 103, 104, 105, 106, 32, 33, 34, 35, 48, 49, 50, 51, 52, 53, 54, 55, 132, 133, 134, 135, 136, 137, 138, 139, 140, 141, 142, 143, 144, 145, 146, 147, 148, 149, 150, 151, 152, 153, 154, 155] (by decide +kernel) (by decide +kernel)
set_option maxRecDepth 20000 in
theorem gX9_does_X9_weighs : GoodIn wsX9_does (wsV RX9 216 RX9 yX9_weighs wsX9_weighs) := goodIn_app (goodIn_of _ (by decide +kernel)) ggX9_does_X9_weighs
set_option maxRecDepth 20000 in
theorem ggX9_does_X9_saves : GoodIn wsX9_does wsX9_saves := goodIn_r _ [127, 15, 16, 17, 18, 13, 19, 132, 133, 134, 135, 136, 137, 138, 139, 140, 141, 142, 143, 144, 145, 146, 147, 148, 149, 150, 151, 152, 153, 154, 155] (by decide +kernel) (by decide +kernel)
set_option maxRecDepth 20000 in
theorem gX9_does_X9_saves : GoodIn wsX9_does (wsV RX9 228 RX9 yX9_saves wsX9_saves) := goodIn_app (goodIn_of _ (by decide +kernel)) ggX9_does_X9_saves
set_option maxRecDepth 20000 in
theorem ggX9_does_X9_brings : GoodIn wsX9_does wsX9_brings := goodIn_r _ [131, 15, 16, 17, 18, 13, 19, 32, 33, 34, 35, 132, 133, 134, 135, 136, 137, 138, 139, 140, 141, 142, 143, 144, 145, 146, 147, 148, 149, 150, 151, 152, 153, 154, 155] (by decide +kernel) (by decide +kernel)
set_option maxRecDepth 20000 in
theorem gX9_does_X9_brings : GoodIn wsX9_does (wsV RX9 231 RX9 yX9_brings wsX9_brings) := goodIn_app (goodIn_of _ (by decide +kernel)) ggX9_does_X9_brings
theorem dX9_does_0 : decode cX9_does 0 = .ok (.aload_n 0, 1) := by decide +kernel
theorem dX9_does_1 : decode cX9_does 1 = .ok (.getfield 55, 3) := by decide +kernel
theorem dX9_does_4 : decode cX9_does 4 = .ok (.iconst 0, 1) := by decide +kernel
theorem dX9_does_5 : decode cX9_does 5 = .ok (.iaload, 1) := by decide +kernel
theorem dX9_does_6 : decode cX9_does 6 = .ok (.istore_n 1, 1) := by decide +kernel
theorem dX9_does_7 : decode cX9_does 7 = .ok (.aload_n 0, 1) := by decide +kernel
theorem dX9_does_8 : decode cX9_does 8 = .ok (.getfield 55, 3) := by decide +kernel
theorem dX9_does_11 : decode cX9_does 11 = .ok (.iconst 1, 1) := by decide +kernel
theorem dX9_does_12 : decode cX9_does 12 = .ok (.iaload, 1) := by decide +kernel
theorem dX9_does_13 : decode cX9_does 13 = .ok (.istore_n 2, 1) := by decide +kernel
theorem dX9_does_14 : decode cX9_does 14 = .ok (.aload_n 0, 1) := by decide +kernel
theorem dX9_does_15 : decode cX9_does 15 = .ok (.getfield 311, 3) := by decide +kernel
theorem dX9_does_18 : decode cX9_does 18 = .ok (.ldc2_w 295, 3) := by decide +kernel
theorem dX9_does_21 : decode cX9_does 21 = .ok (.lcmp, 1) := by decide +kernel
theorem dX9_does_22 : decode cX9_does 22 = .ok (.ifCond .ne 10, 3) := by decide +kernel
theorem dX9_does_25 : decode cX9_does 25 = .ok (.aload_n 0, 1) := by decide +kernel
theorem dX9_does_26 : decode cX9_does 26 = .ok (.iload_n 1, 1) := by decide +kernel
theorem dX9_does_27 : decode cX9_does 27 = .ok (.iload_n 2, 1) := by decide +kernel
theorem dX9_does_28 : decode cX9_does 28 = .ok (.invokevirtual 197, 3) := by decide +kernel
theorem dX9_does_31 : decode cX9_does 31 = .ok (.ireturn, 1) := by decide +kernel
theorem dX9_does_32 : decode cX9_does 32 = .ok (.aload_n 0, 1) := by decide +kernel
theorem dX9_does_33 : decode cX9_does 33 = .ok (.getfield 311, 3) := by decide +kernel
theorem dX9_does_36 : decode cX9_does 36 = .ok (.ldc2_w 297, 3) := by decide +kernel
theorem dX9_does_39 : decode cX9_does 39 = .ok (.lcmp, 1) := by decide +kernel
theorem dX9_does_40 : decode cX9_does 40 = .ok (.ifCond .ne 10, 3) := by decide +kernel
theorem dX9_does_43 : decode cX9_does 43 = .ok (.aload_n 0, 1) := by decide +kernel
theorem dX9_does_44 : decode cX9_does 44 = .ok (.iload_n 1, 1) := by decide +kernel
theorem dX9_does_45 : decode cX9_does 45 = .ok (.iload_n 2, 1) := by decide +kernel
theorem dX9_does_46 : decode cX9_does 46 = .ok (.invokevirtual 206, 3) := by decide +kernel
theorem dX9_does_49 : decode cX9_does 49 = .ok (.ireturn, 1) := by decide +kernel
theorem dX9_does_50 : decode cX9_does 50 = .ok (.aload_n 0, 1) := by decide +kernel
theorem dX9_does_51 : decode cX9_does 51 = .ok (.getfield 311, 3) := by decide +kernel
theorem dX9_does_54 : decode cX9_does 54 = .ok (.ldc2_w 307, 3) := by decide +kernel
theorem dX9_does_57 : decode cX9_does 57 = .ok (.lcmp, 1) := by decide +kernel
theorem dX9_does_58 : decode cX9_does 58 = .ok (.ifCond .ne 16, 3) := by decide +kernel
theorem dX9_does_61 : decode cX9_does 61 = .ok (.aload_n 0, 1) := by decide +kernel
theorem dX9_does_62 : decode cX9_does 62 = .ok (.iload_n 1, 1) := by decide +kernel
theorem dX9_does_63 : decode cX9_does 63 = .ok (.iload_n 2, 1) := by decide +kernel
theorem dX9_does_64 : decode cX9_does 64 = .ok (.aload_n 0, 1) := by decide +kernel
theorem dX9_does_65 : decode cX9_does 65 = .ok (.getfield 55, 3) := by decide +kernel
theorem dX9_does_68 : decode cX9_does 68 = .ok (.iconst 2, 1) := by decide +kernel
theorem dX9_does_69 : decode cX9_does 69 = .ok (.iaload, 1) := by decide +kernel
theorem dX9_does_70 : decode cX9_does 70 = .ok (.invokevirtual 203, 3) := by decide +kernel
theorem dX9_does_73 : decode cX9_does 73 = .ok (.ireturn, 1) := by decide +kernel
theorem dX9_does_74 : decode cX9_does 74 = .ok (.aload_n 0, 1) := by decide +kernel
theorem dX9_does_75 : decode cX9_does 75 = .ok (.getfield 311, 3) := by decide +kernel
theorem dX9_does_78 : decode cX9_does 78 = .ok (.ldc2_w 309, 3) := by decide +kernel
theorem dX9_does_81 : decode cX9_does 81 = .ok (.lcmp, 1) := by decide +kernel
theorem dX9_does_82 : decode cX9_does 82 = .ok (.ifCond .ne 28, 3) := by decide +kernel
theorem dX9_does_85 : decode cX9_does 85 = .ok (.aload_n 0, 1) := by decide +kernel
theorem dX9_does_86 : decode cX9_does 86 = .ok (.iload_n 1, 1) := by decide +kernel
theorem dX9_does_87 : decode cX9_does 87 = .ok (.iload_n 2, 1) := by decide +kernel
theorem dX9_does_88 : decode cX9_does 88 = .ok (.aload_n 0, 1) := by decide +kernel
theorem dX9_does_89 : decode cX9_does 89 = .ok (.getfield 55, 3) := by decide +kernel
theorem dX9_does_92 : decode cX9_does 92 = .ok (.iconst 2, 1) := by decide +kernel
theorem dX9_does_93 : decode cX9_does 93 = .ok (.iaload, 1) := by decide +kernel
theorem dX9_does_94 : decode cX9_does 94 = .ok (.aload_n 0, 1) := by decide +kernel
theorem dX9_does_95 : decode cX9_does 95 = .ok (.getfield 55, 3) := by decide +kernel
theorem dX9_does_98 : decode cX9_does 98 = .ok (.iconst 3, 1) := by decide +kernel
theorem dX9_does_99 : decode cX9_does 99 = .ok (.iaload, 1) := by decide +kernel
theorem dX9_does_100 : decode cX9_does 100 = .ok (.aload_n 0, 1) := by decide +kernel
theorem dX9_does_101 : decode cX9_does 101 = .ok (.getfield 55, 3) := by decide +kernel
theorem dX9_does_104 : decode cX9_does 104 = .ok (.iconst 4, 1) := by decide +kernel
theorem dX9_does_105 : decode cX9_does 105 = .ok (.iaload, 1) := by decide +kernel
theorem dX9_does_106 : decode cX9_does 106 = .ok (.invokevirtual 209, 3) := by decide +kernel
theorem dX9_does_109 : decode cX9_does 109 = .ok (.ireturn, 1) := by decide +kernel
theorem dX9_does_110 : decode cX9_does 110 = .ok (.aload_n 0, 1) := by decide +kernel
theorem dX9_does_111 : decode cX9_does 111 = .ok (.getfield 311, 3) := by decide +kernel
theorem dX9_does_114 : decode cX9_does 114 = .ok (.ldc2_w 301, 3) := by decide +kernel
theorem dX9_does_117 : decode cX9_does 117 = .ok (.lcmp, 1) := by decide +kernel
theorem dX9_does_118 : decode cX9_does 118 = .ok (.ifCond .ne 9, 3) := by decide +kernel
theorem dX9_does_121 : decode cX9_does 121 = .ok (.aload_n 0, 1) := by decide +kernel
theorem dX9_does_122 : decode cX9_does 122 = .ok (.iload_n 1, 1) := by decide +kernel
theorem dX9_does_123 : decode cX9_does 123 = .ok (.invokevirtual 213, 3) := by decide +kernel
theorem dX9_does_126 : decode cX9_does 126 = .ok (.ireturn, 1) := by decide +kernel
theorem dX9_does_127 : decode cX9_does 127 = .ok (.aload_n 0, 1) := by decide +kernel
theorem dX9_does_128 : decode cX9_does 128 = .ok (.getfield 311, 3) := by decide +kernel
theorem dX9_does_131 : decode cX9_does 131 = .ok (.ldc2_w 299, 3) := by decide +kernel
theorem dX9_does_134 : decode cX9_does 134 = .ok (.lcmp, 1) := by decide +kernel
theorem dX9_does_135 : decode cX9_does 135 = .ok (.ifCond .ne 10, 3) := by decide +kernel
theorem dX9_does_138 : decode cX9_does 138 = .ok (.aload_n 0, 1) := by decide +kernel
theorem dX9_does_139 : decode cX9_does 139 = .ok (.iload_n 1, 1) := by decide +kernel
theorem dX9_does_140 : decode cX9_does 140 = .ok (.iload_n 2, 1) := by decide +kernel
theorem dX9_does_141 : decode cX9_does 141 = .ok (.invokevirtual 216, 3) := by decide +kernel
theorem dX9_does_144 : decode cX9_does 144 = .ok (.ireturn, 1) := by decide +kernel
theorem dX9_does_145 : decode cX9_does 145 = .ok (.aload_n 0, 1) := by decide +kernel
theorem dX9_does_146 : decode cX9_does 146 = .ok (.getfield 311, 3) := by decide +kernel
theorem dX9_does_149 : decode cX9_does 149 = .ok (.ldc2_w 303, 3) := by decide +kernel
theorem dX9_does_152 : decode cX9_does 152 = .ok (.lcmp, 1) := by decide +kernel
theorem dX9_does_153 : decode cX9_does 153 = .ok (.ifCond .ne 11, 3) := by decide +kernel
theorem dX9_does_156 : decode cX9_does 156 = .ok (.aload_n 0, 1) := by decide +kernel
theorem dX9_does_157 : decode cX9_does 157 = .ok (.iload_n 1, 1) := by decide +kernel
theorem dX9_does_158 : decode cX9_does 158 = .ok (.invokevirtual 228, 3) := by decide +kernel
theorem dX9_does_161 : decode cX9_does 161 = .ok (.goto 8, 3) := by decide +kernel
theorem dX9_does_164 : decode cX9_does 164 = .ok (.aload_n 0, 1) := by decide +kernel
theorem dX9_does_165 : decode cX9_does 165 = .ok (.iload_n 1, 1) := by decide +kernel
theorem dX9_does_166 : decode cX9_does 166 = .ok (.invokevirtual 231, 3) := by decide +kernel
theorem dX9_does_169 : decode cX9_does 169 = .ok (.ireturn, 1) := by decide +kernel
theorem hin_X9_does_X9 : ∀ w ∈ wsX90, w ∈ wsX9_does := by decide +kernel
theorem lk_X9_does_55 : Cond.fieldLink RX9 55 RX9 "numbers" "[I" ∈ wsX9_does := by decide +kernel
theorem lk_X9_does_311 : Cond.fieldLink RX9 311 RX9 "word" "J" ∈ wsX9_does := by decide +kernel
theorem u_does (hG : GP G) (hM : MoS S r) (hW : MWo mu r) {v : Int} (hv : 0 ≤ v ∧ v < 1099511627776) (hl : la r 21 = I64 v) (ho : dsO mu r v) : Ct G l yX9_does wsX9_does 6 0 0 [.ref r] S n mu la (Dt (some (.int (I32 (dsF mu r v)))) S n (if dsF mu r v = 0 then dsM mu r v else mu) la) := by
  have o9 := hM.1
  have h16 := hM.2.2.2.2.2.2.2.2.2
  obtain ⟨oE, oD, oF, oC⟩ := ho
  obtain ⟨w1, w2, w3, w4, w5⟩ := hW
  have es := pt_self mu r
  have b := fun y => cmI_b v y
  have b1 := b 1885433445
  have b2 := b 1701078885
  have b3 := b 495672455781
  have b4 := b 427021005669
  have b5 := b 1935767141
  have b7 := b 1685021547
  have b8 := b 439905902964
  clear b
  have k1 := m_adds (l := l) (n := n) (la := la) (mu := mu) (T := trT mu r) hG hM w3 (w1 (r + 16) 0) (w1 (r + 16) 1)
  have k2 := fun q : v = 1701078885 => m_edges (l := l) (n := n) (la := la) (mu := mu) (T := trT mu r) hG hM w2 (by decide) w3 (w1 (r + 16) 0) (w1 (r + 16) 1) (oE q)
  have k3 := fun q : v = 1685021547 => m_docksAt (l := l) (n := n) (la := la) (mu := mu) (T := trT mu r) hG hM w2 (by decide) w3 (w1 (r + 16) 0) (w1 (r + 16) 1) (w1 (r + 16) 2) (oD q)
  have k4 := fun q : v = 439905902964 => m_floats (l := l) (n := n) (la := la) (mu := mu) (T := trT mu r) hG hM w2 (by decide) w3 (w1 (r + 16) 0) (w1 (r + 16) 1) (w1 (r + 16) 2) (w1 (r + 16) 3) (w1 (r + 16) 4) (oF q)
  have k5 := fun q : v = 427021005669 => m_closes (l := l) (n := n) (la := la) (mu := mu) (T := trT mu r) hG hM w2 (by decide) w3 (w1 (r + 16) 0) (oC q)
  have k6 := m_weighs (l := l) (n := n) (la := la) (mu := mu) (T := trT mu r) hG hM w2 (by decide) w3 (w1 (r + 16) 0) (w1 (r + 16) 1)
  have k7 := m_saves (l := l) (n := n) (la := la) (mu := mu) (T := trT mu r) hG hM (w1 (r + 16) 0)
  have k8 := m_brings (l := l) (n := n) (la := la) (mu := mu) (T := trT mu r) hG hM w1 w3 (w1 (r + 16) 0)
  rw [es] at k1 k2 k3 k4 k5 k6 k7 k8
  unfold dsF dsM
  refine Ct.ofV (cc := cX9_does) (nL := 3) (ret := (some .int)) [some (.ref r), none, none] hG (by decide) rfl (Nat.le_of_ble_eq_true rfl) rfl ?_
  rintro X rfl rfl C hcl hsl E
  refine V_aload_n C dX9_does_0 rfl ?_
  refine V_getR C 22 dX9_does_1 o9 rfl hin_X9_does_X9 (by decide) lk_X9_does_55 rfl rfl ?_
  refine V_iconst C dX9_does_4 ?_
  refine V_iald C dX9_does_5 h16 (by first | assumption | decide) (by omega) ?_
  refine V_istore_n C dX9_does_6 rfl (by decide) ?_
  refine V_aload_n C dX9_does_7 rfl ?_
  refine V_getR C 22 dX9_does_8 o9 rfl hin_X9_does_X9 (by decide) lk_X9_does_55 rfl rfl ?_
  refine V_iconst C dX9_does_11 ?_
  refine V_iald C dX9_does_12 h16 (by first | assumption | decide) (by omega) ?_
  refine V_istore_n C dX9_does_13 rfl (by decide) ?_
  refine V_aload_n C dX9_does_14 rfl ?_
  refine V_getL C 21 dX9_does_15 o9 rfl hin_X9_does_X9 (by decide) lk_X9_does_311 rfl rfl ?_
  rw [hl]
  refine V_ldc2 C (v := 1885433445) dX9_does_18 (by decide +kernel) ?_
  refine V_lcmp C dX9_does_21 ?_
  rw [lcL (y := 1885433445) (by decide +kernel) (by omega) (by omega)]
  refine V_if_ne C 32 dX9_does_22 (by decide) (by omega) (fun z22 => ?_) (fun z22 => ?_)
  · have y9 : ¬ v = 1885433445 := fun q => absurd (cmI_0.mpr q) (by assumption)
    rw [if_neg y9, if_neg y9] at E
    clear y9
    refine V_aload_n C dX9_does_32 rfl ?_
    refine V_getL C 21 dX9_does_33 o9 rfl hin_X9_does_X9 (by decide) lk_X9_does_311 rfl rfl ?_
    rw [hl]
    refine V_ldc2 C (v := 1701078885) dX9_does_36 (by decide +kernel) ?_
    refine V_lcmp C dX9_does_39 ?_
    rw [lcL (y := 1701078885) (by decide +kernel) (by omega) (by omega)]
    refine V_if_ne C 50 dX9_does_40 (by decide) (by omega) (fun z40 => ?_) (fun z40 => ?_)
    · have y9 : ¬ v = 1701078885 := fun q => absurd (cmI_0.mpr q) (by assumption)
      rw [if_neg y9, if_neg y9] at E
      clear y9
      refine V_aload_n C dX9_does_50 rfl ?_
      refine V_getL C 21 dX9_does_51 o9 rfl hin_X9_does_X9 (by decide) lk_X9_does_311 rfl rfl ?_
      rw [hl]
      refine V_ldc2 C (v := 1685021547) dX9_does_54 (by decide +kernel) ?_
      refine V_lcmp C dX9_does_57 ?_
      rw [lcL (y := 1685021547) (by decide +kernel) (by omega) (by omega)]
      refine V_if_ne C 74 dX9_does_58 (by decide) (by omega) (fun z58 => ?_) (fun z58 => ?_)
      · have y9 : ¬ v = 1685021547 := fun q => absurd (cmI_0.mpr q) (by assumption)
        rw [if_neg y9, if_neg y9] at E
        clear y9
        refine V_aload_n C dX9_does_74 rfl ?_
        refine V_getL C 21 dX9_does_75 o9 rfl hin_X9_does_X9 (by decide) lk_X9_does_311 rfl rfl ?_
        rw [hl]
        refine V_ldc2 C (v := 439905902964) dX9_does_78 (by decide +kernel) ?_
        refine V_lcmp C dX9_does_81 ?_
        rw [lcL (y := 439905902964) (by decide +kernel) (by omega) (by omega)]
        refine V_if_ne C 110 dX9_does_82 (by decide) (by omega) (fun z82 => ?_) (fun z82 => ?_)
        · have y9 : ¬ v = 439905902964 := fun q => absurd (cmI_0.mpr q) (by assumption)
          rw [if_neg y9, if_neg y9] at E
          clear y9
          refine V_aload_n C dX9_does_110 rfl ?_
          refine V_getL C 21 dX9_does_111 o9 rfl hin_X9_does_X9 (by decide) lk_X9_does_311 rfl rfl ?_
          rw [hl]
          refine V_ldc2 C (v := 427021005669) dX9_does_114 (by decide +kernel) ?_
          refine V_lcmp C dX9_does_117 ?_
          rw [lcL (y := 427021005669) (by decide +kernel) (by omega) (by omega)]
          refine V_if_ne C 127 dX9_does_118 (by decide) (by omega) (fun z118 => ?_) (fun z118 => ?_)
          · have y9 : ¬ v = 427021005669 := fun q => absurd (cmI_0.mpr q) (by assumption)
            rw [if_neg y9, if_neg y9] at E
            clear y9
            refine V_aload_n C dX9_does_127 rfl ?_
            refine V_getL C 21 dX9_does_128 o9 rfl hin_X9_does_X9 (by decide) lk_X9_does_311 rfl rfl ?_
            rw [hl]
            refine V_ldc2 C (v := 495672455781) dX9_does_131 (by decide +kernel) ?_
            refine V_lcmp C dX9_does_134 ?_
            rw [lcL (y := 495672455781) (by decide +kernel) (by omega) (by omega)]
            refine V_if_ne C 145 dX9_does_135 (by decide) (by omega) (fun z135 => ?_) (fun z135 => ?_)
            · have y9 : ¬ v = 495672455781 := fun q => absurd (cmI_0.mpr q) (by assumption)
              rw [if_neg y9, if_neg y9] at E
              clear y9
              refine V_aload_n C dX9_does_145 rfl ?_
              refine V_getL C 21 dX9_does_146 o9 rfl hin_X9_does_X9 (by decide) lk_X9_does_311 rfl rfl ?_
              rw [hl]
              refine V_ldc2 C (v := 1935767141) dX9_does_149 (by decide +kernel) ?_
              refine V_lcmp C dX9_does_152 ?_
              rw [lcL (y := 1935767141) (by decide +kernel) (by omega) (by omega)]
              refine V_if_ne C 164 dX9_does_153 (by decide) (by omega) (fun z153 => ?_) (fun z153 => ?_)
              · have y9 : ¬ v = 1935767141 := fun q => absurd (cmI_0.mpr q) (by assumption)
                rw [if_neg y9, if_neg y9] at E
                clear y9
                refine V_aload_n C dX9_does_164 rfl ?_
                refine V_iload_n C dX9_does_165 rfl ?_
                refine V_callVD (nA := 1) C dX9_does_166 k8 gX9_does_X9_brings rfl o9 rfl (by decide +kernel) rfl (by decide) (by decide) (Nat.le_of_ble_eq_true rfl) ⟨by omega, by omega⟩ rfl ?_
                refine V_ireturn C E dX9_does_169 (by omega) (by omega) ?_
                exact Dt_rfl
              · have y9 : v = 1935767141 := cmI_0.mp (by assumption)
                rw [if_pos y9, if_pos y9] at E
                refine V_aload_n C dX9_does_156 rfl ?_
                refine V_iload_n C dX9_does_157 rfl ?_
                refine V_callVD (nA := 1) C dX9_does_158 k7 gX9_does_X9_saves rfl o9 rfl (by decide +kernel) rfl (by decide) (by decide) (Nat.le_of_ble_eq_true rfl) ⟨by omega, by omega⟩ rfl ?_
                refine V_goto C 169 dX9_does_161 (by decide) ?_
                refine V_ireturn C E dX9_does_169 (by omega) (by omega) ?_
                exact Dt_rfl
            · have y9 : v = 495672455781 := cmI_0.mp (by assumption)
              rw [if_pos y9, if_pos y9] at E
              refine V_aload_n C dX9_does_138 rfl ?_
              refine V_iload_n C dX9_does_139 rfl ?_
              refine V_iload_n C dX9_does_140 rfl ?_
              refine V_callVD (nA := 2) C dX9_does_141 k6 gX9_does_X9_weighs rfl o9 rfl (by decide +kernel) rfl (by decide) (by decide) (Nat.le_of_ble_eq_true rfl) ⟨by omega, by omega⟩ rfl ?_
              refine V_ireturn C E dX9_does_144 (by omega) (by omega) ?_
              exact Dt_rfl
          · have y9 : v = 427021005669 := cmI_0.mp (by assumption)
            rw [if_pos y9, if_pos y9] at E
            refine V_aload_n C dX9_does_121 rfl ?_
            refine V_iload_n C dX9_does_122 rfl ?_
            refine V_callVD (nA := 1) C dX9_does_123 (k5 (by assumption)) gX9_does_X9_closes rfl o9 rfl (by decide +kernel) rfl (by decide) (by decide) (Nat.le_of_ble_eq_true rfl) ⟨by omega, by omega⟩ rfl ?_
            refine V_ireturn C E dX9_does_126 (by omega) (by omega) ?_
            exact Dt_rfl
        · have y9 : v = 439905902964 := cmI_0.mp (by assumption)
          rw [if_pos y9, if_pos y9] at E
          refine V_aload_n C dX9_does_85 rfl ?_
          refine V_iload_n C dX9_does_86 rfl ?_
          refine V_iload_n C dX9_does_87 rfl ?_
          refine V_aload_n C dX9_does_88 rfl ?_
          refine V_getR C 22 dX9_does_89 o9 rfl hin_X9_does_X9 (by decide) lk_X9_does_55 rfl rfl ?_
          refine V_iconst C dX9_does_92 ?_
          refine V_iald C dX9_does_93 h16 (by first | assumption | decide) (by omega) ?_
          refine V_aload_n C dX9_does_94 rfl ?_
          refine V_getR C 22 dX9_does_95 o9 rfl hin_X9_does_X9 (by decide) lk_X9_does_55 rfl rfl ?_
          refine V_iconst C dX9_does_98 ?_
          refine V_iald C dX9_does_99 h16 (by first | assumption | decide) (by omega) ?_
          refine V_aload_n C dX9_does_100 rfl ?_
          refine V_getR C 22 dX9_does_101 o9 rfl hin_X9_does_X9 (by decide) lk_X9_does_55 rfl rfl ?_
          refine V_iconst C dX9_does_104 ?_
          refine V_iald C dX9_does_105 h16 (by first | assumption | decide) (by omega) ?_
          refine V_callVD (nA := 5) C dX9_does_106 (k4 (by assumption)) gX9_does_X9_floats rfl o9 rfl (by decide +kernel) rfl (by decide) (by decide) (Nat.le_of_ble_eq_true rfl) ⟨by omega, by omega⟩ rfl ?_
          refine V_ireturn C E dX9_does_109 (by omega) (by omega) ?_
          exact Dt_rfl
      · have y9 : v = 1685021547 := cmI_0.mp (by assumption)
        rw [if_pos y9, if_pos y9] at E
        refine V_aload_n C dX9_does_61 rfl ?_
        refine V_iload_n C dX9_does_62 rfl ?_
        refine V_iload_n C dX9_does_63 rfl ?_
        refine V_aload_n C dX9_does_64 rfl ?_
        refine V_getR C 22 dX9_does_65 o9 rfl hin_X9_does_X9 (by decide) lk_X9_does_55 rfl rfl ?_
        refine V_iconst C dX9_does_68 ?_
        refine V_iald C dX9_does_69 h16 (by first | assumption | decide) (by omega) ?_
        refine V_callVD (nA := 3) C dX9_does_70 (k3 (by assumption)) gX9_does_X9_docksAt rfl o9 rfl (by decide +kernel) rfl (by decide) (by decide) (Nat.le_of_ble_eq_true rfl) ⟨by omega, by omega⟩ rfl ?_
        refine V_ireturn C E dX9_does_73 (by omega) (by omega) ?_
        exact Dt_rfl
    · have y9 : v = 1701078885 := cmI_0.mp (by assumption)
      rw [if_pos y9, if_pos y9] at E
      refine V_aload_n C dX9_does_43 rfl ?_
      refine V_iload_n C dX9_does_44 rfl ?_
      refine V_iload_n C dX9_does_45 rfl ?_
      refine V_callVD (nA := 2) C dX9_does_46 (k2 (by assumption)) gX9_does_X9_edges rfl o9 rfl (by decide +kernel) rfl (by decide) (by decide) (Nat.le_of_ble_eq_true rfl) ⟨by omega, by omega⟩ rfl ?_
      refine V_ireturn C E dX9_does_49 (by omega) (by omega) ?_
      exact Dt_rfl
  · have y9 : v = 1885433445 := cmI_0.mp (by assumption)
    rw [if_pos y9, if_pos y9] at E
    refine V_aload_n C dX9_does_25 rfl ?_
    refine V_iload_n C dX9_does_26 rfl ?_
    refine V_iload_n C dX9_does_27 rfl ?_
    refine V_callVD (nA := 2) C dX9_does_28 k1 gX9_does_X9_adds rfl o9 rfl (by decide +kernel) rfl (by decide) (by decide) (Nat.le_of_ble_eq_true rfl) ⟨by omega, by omega⟩ rfl ?_
    refine V_ireturn C E dX9_does_31 (by omega) (by omega) ?_
    exact Dt_rfl
set_option maxRecDepth 20000 in
theorem ggX9_faultAt_X9_skips : GoodIn wsX9_faultAt wsX9_skips := goodIn_r _ [7, 1, 8, 9, 10, 6, 11, 2, 12, 13, 14, 15, 41, 42, 43, 44, 45, 46, 47, 48, 49, 50, 51, 52, 53, 54, 55, 56, 57, 58, 59, 60, 61, 62, 63, 64] (by decide +kernel) (by decide +kernel)
set_option maxRecDepth 20000 in
theorem gX9_faultAt_X9_skips : GoodIn wsX9_faultAt (wsV RX9 319 RX9 yX9_skips wsX9_skips) := goodIn_app (goodIn_of _ (by decide +kernel)) ggX9_faultAt_X9_skips
set_option maxRecDepth 20000 in
theorem ggX9_faultAt_X9_isCommand : GoodIn wsX9_faultAt wsX9_isCommand := goodIn_r _ [19, 20, 1, 21, 22, 23, 6, 24, 12, 8, 9, 10, 11, 2, 13, 14, 15, 25, 26, 27, 28, 29, 30, 31, 32, 33, 34, 35, 36, 37, 38, 39, 40, 3, 4, 5, 7, 41, 42, 43, 44, 45, 46, 47, 48, 49, 50, 51, 52, 53, 54, 55, 56, 57, 58, 59, 60, 61, 62, 63, 64] (by decide +kernel) (by decide +kernel)
set_option maxRecDepth 20000 in
theorem gX9_faultAt_X9_isCommand : GoodIn wsX9_faultAt (wsV RX9 329 RX9 yX9_isCommand wsX9_isCommand) := goodIn_app (goodIn_of _ (by decide +kernel)) ggX9_faultAt_X9_isCommand
theorem dX9_faultAt_0 : decode cX9_faultAt 0 = .ok (.aload_n 0, 1) := by decide +kernel
theorem dX9_faultAt_1 : decode cX9_faultAt 1 = .ok (.iconst 0, 1) := by decide +kernel
theorem dX9_faultAt_2 : decode cX9_faultAt 2 = .ok (.putfield 289, 3) := by decide +kernel
theorem dX9_faultAt_5 : decode cX9_faultAt 5 = .ok (.aload_n 0, 1) := by decide +kernel
theorem dX9_faultAt_6 : decode cX9_faultAt 6 = .ok (.invokevirtual 319, 3) := by decide +kernel
theorem dX9_faultAt_9 : decode cX9_faultAt 9 = .ok (.aload_n 0, 1) := by decide +kernel
theorem dX9_faultAt_10 : decode cX9_faultAt 10 = .ok (.getfield 289, 3) := by decide +kernel
theorem dX9_faultAt_13 : decode cX9_faultAt 13 = .ok (.aload_n 0, 1) := by decide +kernel
theorem dX9_faultAt_14 : decode cX9_faultAt 14 = .ok (.getfield 286, 3) := by decide +kernel
theorem dX9_faultAt_17 : decode cX9_faultAt 17 = .ok (.if_icmp .ge 15, 3) := by decide +kernel
theorem dX9_faultAt_20 : decode cX9_faultAt 20 = .ok (.aload_n 0, 1) := by decide +kernel
theorem dX9_faultAt_21 : decode cX9_faultAt 21 = .ok (.invokevirtual 329, 3) := by decide +kernel
theorem dX9_faultAt_24 : decode cX9_faultAt 24 = .ok (.ifCond .ne (-15), 3) := by decide +kernel
theorem dX9_faultAt_27 : decode cX9_faultAt 27 = .ok (.aload_n 0, 1) := by decide +kernel
theorem dX9_faultAt_28 : decode cX9_faultAt 28 = .ok (.getfield 289, 3) := by decide +kernel
theorem dX9_faultAt_31 : decode cX9_faultAt 31 = .ok (.ireturn, 1) := by decide +kernel
theorem dX9_faultAt_32 : decode cX9_faultAt 32 = .ok (.iconst (-1), 1) := by decide +kernel
theorem dX9_faultAt_33 : decode cX9_faultAt 33 = .ok (.ireturn, 1) := by decide +kernel
theorem hin_X9_faultAt_X9 : ∀ w ∈ wsX90, w ∈ wsX9_faultAt := by decide +kernel
theorem lk_X9_faultAt_289 : Cond.fieldLink RX9 289 RX9 "spot" "I" ∈ wsX9_faultAt := by decide +kernel
theorem lk_X9_faultAt_286 : Cond.fieldLink RX9 286 RX9 "typed" "I" ∈ wsX9_faultAt := by decide +kernel
theorem u_faultAt (hG : GP G) (hM : MoS S r) (hR : R32 mu) (hn : 0 ≤ mu r 6 ∧ mu r 6 ≤ 150) : Ct G l yX9_faultAt wsX9_faultAt 5 0 0 [.ref r] S n mu la (Dt (some (.int (I32 (fqF mu r (la r 21)).1))) S n (rf1 mu r (la r 21)) (upl la r 21 (fqF mu r (la r 21)).2.2.1)) := by
  have o9 := hM.1
  have bk := kF_b mu r (c := 0) (by omega)
  unfold rf1 fqF
  generalize eF : fqG mu r 151 (kF mu r 0) (la r 21, mu (r + 16)) = F
  refine Ct.ofV (cc := cX9_faultAt) (nL := 1) (ret := (some .int)) [some (.ref r)] hG (by decide) rfl (Nat.le_of_ble_eq_true rfl) rfl ?_
  rintro X rfl rfl C hcl hsl E
  have loop : ∀ (d : Nat) (c : Int) (x : Int64 × (Int → Int)), (0 ≤ c ∧ c ≤ mu r 6) → mu r 6 - c < d → fqG mu r d c x = F → V X 9 [some (.ref r)] [] S n (mxM mu r c x.2) (upl la r 21 x.1) 0 0 := by
    intro d
    induction d with
    | zero =>
      intro c x h1 h2 h3
      omega
    | succ d ih =>
      intro c x h1 h2 h3
      have b := cmF_b mu r x.2 h1
      rw [fqG] at h3
      refine V_aload_n C dX9_faultAt_9 rfl ?_
      refine V_getJ C 20 20 rfl dX9_faultAt_10 o9 rfl hin_X9_faultAt_X9 (by decide) lk_X9_faultAt_289 rfl rfl (by first | exact mx_c | exact mx_6) ?_
      refine V_aload_n C dX9_faultAt_13 rfl ?_
      refine V_getJ C 6 6 rfl dX9_faultAt_14 o9 rfl hin_X9_faultAt_X9 (by decide) lk_X9_faultAt_286 rfl rfl (by first | exact mx_c | exact mx_6) ?_
      refine V_icmp_ge C 32 dX9_faultAt_17 (by decide) (by omega) (by omega) (fun z => ?_) (fun z => ?_)
      · rw [if_neg (by omega)] at h3
        subst h3
        refine V_iconst C dX9_faultAt_32 ?_
        refine V_ireturn C E dX9_faultAt_33 (by omega) (by omega) ?_
        exact Dt_rfl
      · rw [if_pos z] at h3
        refine V_aload_n C dX9_faultAt_20 rfl ?_
        refine V_callVD (nA := 0) C dX9_faultAt_21 (u_isCommand C.gp hM hR hn h1) gX9_faultAt_X9_isCommand rfl o9 rfl (by decide +kernel) rfl (by decide) (by decide) (Nat.le_of_ble_eq_true rfl) ⟨by omega, by omega⟩ rfl ?_
        rw [upl_upl]
        refine V_if_ne C 9 dX9_faultAt_24 (by decide) (by omega) (fun z2 => ?_) (fun z2 => ?_)
        · have z3 : (cmF mu r c x.2).1 = 1 := by omega
          have b9 := b.2.2 z3
          rw [if_pos z3] at h3
          exact ih _ (I64 (cmF mu r c x.2).2.2.1, (cmF mu r c x.2).2.2.2) (by omega) (by omega) h3
        · rw [if_neg (by omega)] at h3
          subst h3
          refine V_aload_n C dX9_faultAt_27 rfl ?_
          refine V_getJ C 20 20 rfl dX9_faultAt_28 o9 rfl hin_X9_faultAt_X9 (by decide) lk_X9_faultAt_289 rfl rfl (mx_c) ?_
          refine V_ireturn C E dX9_faultAt_31 (by omega) (by omega) ?_
          exact Dt_rfl
  have e0 : up mu r 20 0 = mxM mu r 0 (mu (r + 16)) := by
    rw [← mxu_c (c := mu r 20), mx_self]
  refine V_aload_n C dX9_faultAt_0 rfl ?_
  refine V_iconst C dX9_faultAt_1 ?_
  refine V_putJ C 20 20 rfl dX9_faultAt_2 o9 rfl hin_X9_faultAt_X9 tyX9 tyX9_ok nmX9 (by decide) lk_X9_faultAt_289 rfl rfl (by decide +kernel) rfl (e0) ?_
  refine V_aload_n C dX9_faultAt_5 rfl ?_
  refine V_callVD (nA := 0) C dX9_faultAt_6 (u_skips C.gp hM hR hn (by omega)) gX9_faultAt_X9_skips rfl o9 rfl (by decide +kernel) rfl (by decide) (by decide) (Nat.le_of_ble_eq_true rfl) ⟨by omega, by omega⟩ rfl ?_
  have h9 := loop 151 (kF mu r 0) (la r 21, mu (r + 16)) (by omega) (by omega) eF
  dsimp only at h9
  rw [upl_self] at h9
  exact h9
set_option maxRecDepth 20000 in
theorem ggX9_runCommands_X9_faultAt : GoodIn wsX9_runCommands wsX9_faultAt := goodIn_r _ [7, 1, 2, 8, 9, 10, 6, 11, 12, 13, 14, 15, 16, 17, 18, 19, 20, 21, 22, 23, 24, 25, 26, 27, 28, 29, 30, 31, 32, 33, 34, 35, 36, 37, 38, 39, 40, 41, 42, 43, 44, 186, 187, 188, 189, 190, 191, 192, 193, 194, 195, 196, 197, 198, 199, 200, 201, 202, 203, 204, 205, 206, 207, 208, 209] (by decide +kernel) (by decide +kernel)
set_option maxRecDepth 20000 in
theorem gX9_runCommands_X9_faultAt : GoodIn wsX9_runCommands (wsV RX9 332 RX9 yX9_faultAt wsX9_faultAt) := goodIn_app (goodIn_of _ (by decide +kernel)) ggX9_runCommands_X9_faultAt
set_option maxRecDepth 20000 in
theorem ggX9_runCommands_X9_tells : GoodIn wsX9_runCommands wsX9_tells := goodIn_r _ [48, 49, 186, 187, 188, 189, 190, 191, 192, 193, 194, 195, 196, 197, 198, 199, 200, 201, 202, 203, 204, 205, 206, 207, 208, 209] (by decide +kernel) (by decide +kernel)
set_option maxRecDepth 20000 in
theorem gX9_runCommands_X9_tells : GoodIn wsX9_runCommands (wsV RX9 69 RX9 yX9_tells wsX9_tells) := goodIn_app (goodIn_of _ (by decide +kernel)) ggX9_runCommands_X9_tells
set_option maxRecDepth 20000 in
theorem ggX9_runCommands_X9_hold : GoodIn wsX9_runCommands wsX9_hold := goodIn_r _ [53, 54, 55, 56, 57, 6, 58, 186, 187, 188, 189, 190, 191, 192, 193, 194, 195, 196, 197, 198, 199, 200, 201, 202, 203, 204, 205, 206, 207, 208, 209] (by decide +kernel) (by decide +kernel)
set_option maxRecDepth 20000 in
theorem gX9_runCommands_X9_hold : GoodIn wsX9_runCommands (wsV RX9 194 RX9 yX9_hold wsX9_hold) := goodIn_app (goodIn_of _ (by decide +kernel)) ggX9_runCommands_X9_hold
set_option maxRecDepth 20000 in
theorem ggX9_runCommands_X9_skips : GoodIn wsX9_runCommands wsX9_skips := goodIn_r _ [11, 1, 12, 13, 14, 6, 15, 2, 16, 17, 18, 19, 186, 187, 188, 189, 190, 191, 192, 193, 194, 195, 196, 197, 198, 199, 200, 201, 202, 203, 204, 205, 206, 207, 208, 209] (by decide +kernel) (by decide +kernel)
set_option maxRecDepth 20000 in
theorem gX9_runCommands_X9_skips : GoodIn wsX9_runCommands (wsV RX9 319 RX9 yX9_skips wsX9_skips) := goodIn_app (goodIn_of _ (by decide +kernel)) ggX9_runCommands_X9_skips
set_option maxRecDepth 20000 in
theorem ggX9_runCommands_X9_isCommand : GoodIn wsX9_runCommands wsX9_isCommand := goodIn_r _ [23, 24, 1, 25, 26, 27, 6, 28, 16, 12, 13, 14, 15, 2, 17, 18, 19, 29, 30, 31, 32, 33, 34, 35, 36, 37, 38, 39, 40, 41, 42, 43, 44, 8, 9, 10, 11, 186, 187, 188, 189, 190, 191, 192, 193, 194, 195, 196, 197, 198, 199, 200, 201, 202, 203, 204, 205, 206, 207, 208, 209] (by decide +kernel) (by decide +kernel)
set_option maxRecDepth 20000 in
theorem gX9_runCommands_X9_isCommand : GoodIn wsX9_runCommands (wsV RX9 329 RX9 yX9_isCommand wsX9_isCommand) := goodIn_app (goodIn_of _ (by decide +kernel)) ggX9_runCommands_X9_isCommand
set_option maxRecDepth 20000 in
theorem ggX9_runCommands_X9_does : GoodIn wsX9_runCommands wsX9_does := goodIn_s _ [(62, 1), (44, 1), (24, 1), (32, 2), (38, 2), (35, 1), (34, 1), (36, 1), (63, 3), (6, 1), (66, 1), (55, 1), (67, 1), (17, 3), (68, 112), (186, 24)] (by rfl) (by decide +kernel)
set_option maxRecDepth 20000 in
theorem gX9_runCommands_X9_does : GoodIn wsX9_runCommands (wsV RX9 335 RX9 yX9_does wsX9_does) := goodIn_app (goodIn_of _ (by decide +kernel)) ggX9_runCommands_X9_does
set_option maxRecDepth 20000 in
theorem ggX9_runCommands_X9_ends : GoodIn wsX9_runCommands wsX9_ends := goodIn_r _ [183, 184, 185, 54, 45, 46, 47, 6, 48, 49, 186, 187, 188, 189, 190, 191, 192, 193, 194, 195, 196, 197, 198, 199, 200, 201, 202, 203, 204, 205, 206, 207, 208, 209] (by decide +kernel) (by decide +kernel)
set_option maxRecDepth 20000 in
theorem gX9_runCommands_X9_ends : GoodIn wsX9_runCommands (wsV RX9 153 RX9 yX9_ends wsX9_ends) := goodIn_app (goodIn_of _ (by decide +kernel)) ggX9_runCommands_X9_ends
theorem dX9_runCommands_0 : decode cX9_runCommands 0 = .ok (.aload_n 0, 1) := by decide +kernel
theorem dX9_runCommands_1 : decode cX9_runCommands 1 = .ok (.invokevirtual 332, 3) := by decide +kernel
theorem dX9_runCommands_4 : decode cX9_runCommands 4 = .ok (.istore_n 1, 1) := by decide +kernel
theorem dX9_runCommands_5 : decode cX9_runCommands 5 = .ok (.iload_n 1, 1) := by decide +kernel
theorem dX9_runCommands_6 : decode cX9_runCommands 6 = .ok (.iconst (-1), 1) := by decide +kernel
theorem dX9_runCommands_7 : decode cX9_runCommands 7 = .ok (.if_icmp .eq 12, 3) := by decide +kernel
theorem dX9_runCommands_10 : decode cX9_runCommands 10 = .ok (.aload_n 0, 1) := by decide +kernel
theorem dX9_runCommands_11 : decode cX9_runCommands 11 = .ok (.bipush (-10), 2) := by decide +kernel
theorem dX9_runCommands_13 : decode cX9_runCommands 13 = .ok (.iload_n 1, 1) := by decide +kernel
theorem dX9_runCommands_14 : decode cX9_runCommands 14 = .ok (.isub, 1) := by decide +kernel
theorem dX9_runCommands_15 : decode cX9_runCommands 15 = .ok (.invokevirtual 69, 3) := by decide +kernel
theorem dX9_runCommands_18 : decode cX9_runCommands 18 = .ok (.ireturn, 1) := by decide +kernel
theorem dX9_runCommands_19 : decode cX9_runCommands 19 = .ok (.aload_n 0, 1) := by decide +kernel
theorem dX9_runCommands_20 : decode cX9_runCommands 20 = .ok (.invokevirtual 194, 3) := by decide +kernel
theorem dX9_runCommands_23 : decode cX9_runCommands 23 = .ok (.aload_n 0, 1) := by decide +kernel
theorem dX9_runCommands_24 : decode cX9_runCommands 24 = .ok (.iconst 0, 1) := by decide +kernel
theorem dX9_runCommands_25 : decode cX9_runCommands 25 = .ok (.putfield 289, 3) := by decide +kernel
theorem dX9_runCommands_28 : decode cX9_runCommands 28 = .ok (.aload_n 0, 1) := by decide +kernel
theorem dX9_runCommands_29 : decode cX9_runCommands 29 = .ok (.invokevirtual 319, 3) := by decide +kernel
theorem dX9_runCommands_32 : decode cX9_runCommands 32 = .ok (.iconst 0, 1) := by decide +kernel
theorem dX9_runCommands_33 : decode cX9_runCommands 33 = .ok (.istore_n 2, 1) := by decide +kernel
theorem dX9_runCommands_34 : decode cX9_runCommands 34 = .ok (.iconst 1, 1) := by decide +kernel
theorem dX9_runCommands_35 : decode cX9_runCommands 35 = .ok (.istore_n 3, 1) := by decide +kernel
theorem dX9_runCommands_36 : decode cX9_runCommands 36 = .ok (.aload_n 0, 1) := by decide +kernel
theorem dX9_runCommands_37 : decode cX9_runCommands 37 = .ok (.getfield 289, 3) := by decide +kernel
theorem dX9_runCommands_40 : decode cX9_runCommands 40 = .ok (.aload_n 0, 1) := by decide +kernel
theorem dX9_runCommands_41 : decode cX9_runCommands 41 = .ok (.getfield 286, 3) := by decide +kernel
theorem dX9_runCommands_44 : decode cX9_runCommands 44 = .ok (.if_icmp .ge 42, 3) := by decide +kernel
theorem dX9_runCommands_47 : decode cX9_runCommands 47 = .ok (.iload_n 3, 1) := by decide +kernel
theorem dX9_runCommands_48 : decode cX9_runCommands 48 = .ok (.ifCond .eq 38, 3) := by decide +kernel
theorem dX9_runCommands_51 : decode cX9_runCommands 51 = .ok (.aload_n 0, 1) := by decide +kernel
theorem dX9_runCommands_52 : decode cX9_runCommands 52 = .ok (.invokevirtual 329, 3) := by decide +kernel
theorem dX9_runCommands_55 : decode cX9_runCommands 55 = .ok (.ifCond .eq 14, 3) := by decide +kernel
theorem dX9_runCommands_58 : decode cX9_runCommands 58 = .ok (.aload_n 0, 1) := by decide +kernel
theorem dX9_runCommands_59 : decode cX9_runCommands 59 = .ok (.invokevirtual 335, 3) := by decide +kernel
theorem dX9_runCommands_62 : decode cX9_runCommands 62 = .ok (.ifCond .ne 7, 3) := by decide +kernel
theorem dX9_runCommands_65 : decode cX9_runCommands 65 = .ok (.iconst 1, 1) := by decide +kernel
theorem dX9_runCommands_66 : decode cX9_runCommands 66 = .ok (.goto 4, 3) := by decide +kernel
theorem dX9_runCommands_69 : decode cX9_runCommands 69 = .ok (.iconst 0, 1) := by decide +kernel
theorem dX9_runCommands_70 : decode cX9_runCommands 70 = .ok (.istore_n 3, 1) := by decide +kernel
theorem dX9_runCommands_71 : decode cX9_runCommands 71 = .ok (.iload_n 2, 1) := by decide +kernel
theorem dX9_runCommands_72 : decode cX9_runCommands 72 = .ok (.iload_n 3, 1) := by decide +kernel
theorem dX9_runCommands_73 : decode cX9_runCommands 73 = .ok (.ifCond .eq 7, 3) := by decide +kernel
theorem dX9_runCommands_76 : decode cX9_runCommands 76 = .ok (.iconst 1, 1) := by decide +kernel
theorem dX9_runCommands_77 : decode cX9_runCommands 77 = .ok (.goto 4, 3) := by decide +kernel
theorem dX9_runCommands_80 : decode cX9_runCommands 80 = .ok (.iconst 0, 1) := by decide +kernel
theorem dX9_runCommands_81 : decode cX9_runCommands 81 = .ok (.iadd, 1) := by decide +kernel
theorem dX9_runCommands_82 : decode cX9_runCommands 82 = .ok (.istore_n 2, 1) := by decide +kernel
theorem dX9_runCommands_83 : decode cX9_runCommands 83 = .ok (.goto (-47), 3) := by decide +kernel
theorem dX9_runCommands_86 : decode cX9_runCommands 86 = .ok (.aload_n 0, 1) := by decide +kernel
theorem dX9_runCommands_87 : decode cX9_runCommands 87 = .ok (.iload_n 2, 1) := by decide +kernel
theorem dX9_runCommands_88 : decode cX9_runCommands 88 = .ok (.invokevirtual 153, 3) := by decide +kernel
theorem dX9_runCommands_91 : decode cX9_runCommands 91 = .ok (.ireturn, 1) := by decide +kernel
theorem hin_X9_runCommands_X9 : ∀ w ∈ wsX90, w ∈ wsX9_runCommands := by decide +kernel
theorem lk_X9_runCommands_289 : Cond.fieldLink RX9 289 RX9 "spot" "I" ∈ wsX9_runCommands := by decide +kernel
theorem lk_X9_runCommands_286 : Cond.fieldLink RX9 286 RX9 "typed" "I" ∈ wsX9_runCommands := by decide +kernel
theorem p_runFault (hG : GP G) (hM : MoS S r) (hW : MWo mu r) (hf : (fqF mu r (la r 21)).1 ≠ -1) : Ct G l yX9_runCommands wsX9_runCommands 7 0 0 [.ref r] S n mu la (Dt (some (.int (I32 (-10 - (fqF mu r (la r 21)).1)))) S n (up (rf1 mu r (la r 21)) r 7 0) (upl la r 21 (fqF mu r (la r 21)).2.2.1)) := by
  have o9 := hM.1
  have hn := hW.2.2.2.2
  have bk := kF_b mu r (c := 0) (by omega)
  have bf := fqG_b mu r 151 (kF mu r 0) (la r 21, mu (r + 16)) (by omega) (fun j => hW.1 _ j)
  rw [show fqG mu r 151 (kF mu r 0) (la r 21, mu (r + 16)) = fqF mu r (la r 21) from rfl] at bf
  refine Ct.ofV (cc := cX9_runCommands) (nL := 4) (ret := (some .int)) [some (.ref r), none, none, none] hG (by decide) rfl (Nat.le_of_ble_eq_true rfl) rfl ?_
  rintro X rfl rfl C hcl hsl E
  refine V_aload_n C dX9_runCommands_0 rfl ?_
  refine V_callVD (nA := 0) C dX9_runCommands_1 (u_faultAt C.gp hM hW.1 hn) gX9_runCommands_X9_faultAt rfl o9 rfl (by decide +kernel) rfl (by decide) (by decide) (Nat.le_of_ble_eq_true rfl) ⟨by omega, by omega⟩ rfl ?_
  refine V_istore_n C dX9_runCommands_4 rfl (by decide) ?_
  refine V_iload_n C dX9_runCommands_5 rfl ?_
  refine V_iconst C dX9_runCommands_6 ?_
  refine V_icmp_eq C 19 dX9_runCommands_7 (by decide) (by omega) (by omega) (fun z => ?_) (fun z => ?_)
  · exact absurd z hf
  · refine V_aload_n C dX9_runCommands_10 rfl ?_
    refine V_bipush C dX9_runCommands_11 (by decide +kernel) ?_
    refine V_iload_n C dX9_runCommands_13 rfl ?_
    refine V_isub C dX9_runCommands_14 ?_
    refine V_callVD (nA := 1) C dX9_runCommands_15 (m_tells C.gp hM) gX9_runCommands_X9_tells rfl o9 rfl (by decide +kernel) rfl (by decide) (by decide) (Nat.le_of_ble_eq_true rfl) ⟨by omega, by omega⟩ rfl ?_
    refine V_ireturn C E dX9_runCommands_18 (by omega) (by omega) ?_
    exact Dt_rfl
-- X9_runCommands
theorem p_runCommands (hG : GP G) (hM : MoS S r) (hW : MWo mu r) (hf : (fqF mu r (la r 21)).1 = -1) (Q : Mem → Prop) (hQ0 : Q (rr0 mu r (la r 21))) (hQW : ∀ m, Q m → MWo m r ∧ (0 ≤ m r 20 ∧ m r 20 ≤ m r 6))
    (hQ1 : ∀ m, Q m → m r 20 < m r 6 → (rx1 m r).1 = 1 → dsO (rm1 m r) r (rx1 m r).2.2.1 ∧ (dsF (rm1 m r) r (rx1 m r).2.2.1 = 0 → Q (dsM (rm1 m r) r (rx1 m r).2.2.1))) :
    Ct G l yX9_runCommands wsX9_runCommands 7 0 0 [.ref r] S n mu la (Dt (some (.int (I32 (rrG r 151 (rr0 mu r (la r 21)) (fqF mu r (la r 21)).2.2.1 0).1))) S n (enM (rrG r 151 (rr0 mu r (la r 21)) (fqF mu r (la r 21)).2.2.1 0).2.1 r) (upl la r 21 (rrG r 151 (rr0 mu r (la r 21)) (fqF mu r (la r 21)).2.2.1 0).2.2)) := by
  have o9 := hM.1
  have hn := hW.2.2.2.2
  have bk := kF_b mu r (c := 0) (by omega)
  have bf := fqG_b mu r 151 (kF mu r 0) (la r 21, mu (r + 16)) (by omega) (fun j => hW.1 _ j)
  rw [show fqG mu r 151 (kF mu r 0) (la r 21, mu (r + 16)) = fqF mu r (la r 21) from rfl] at bf
  have hW1 : MWo (rf1 mu r (la r 21)) r := mx_W hW (by omega) bf.2.2
  have hW2 := hd_W hW1
  have e6 : hdM (rf1 mu r (la r 21)) r r 6 = mu r 6 := by rw [hdM_r]; exact mx_r (by decide)
  have hn2 := hW2.2.2.2.2
  generalize eG : rrG r 151 (rr0 mu r (la r 21)) (fqF mu r (la r 21)).2.2.1 0 = R
  refine Ct.ofV (cc := cX9_runCommands) (nL := 4) (ret := (some .int)) [some (.ref r), none, none, none] hG (by decide) rfl (Nat.le_of_ble_eq_true rfl) rfl ?_
  rintro X rfl rfl C hcl hsl E
  have last : ∀ (m : Mem) (W : Int64) (k g : Int), R = (k, m, W) → MWo m r → V X 86 [some (.ref r), some (.int (I32 (-1))), some (.int (I32 k)), some (.int (I32 g))] [] S n m (upl la r 21 W) 0 0 := by
    intro m W k g h1 h2
    subst h1
    refine V_aload_n C dX9_runCommands_86 rfl ?_
    refine V_iload_n C dX9_runCommands_87 rfl ?_
    refine V_callVD (nA := 1) C dX9_runCommands_88 (m_ends C.gp hM h2.2.2.2.1) gX9_runCommands_X9_ends rfl o9 rfl (by decide +kernel) rfl (by decide) (by decide) (Nat.le_of_ble_eq_true rfl) ⟨by omega, by omega⟩ rfl ?_
    refine V_ireturn C E dX9_runCommands_91 (by omega) (by omega) ?_
    exact Dt_rfl
  have loop : ∀ (d : Nat) (k : Int) (m : Mem) (W : Int64), m r 6 - m r 20 < d → Q m → rrG r d m W k = R → V X 36 [some (.ref r), some (.int (I32 (-1))), some (.int (I32 k)), some (.int (I32 1))] [] S n m (upl la r 21 W) 0 0 := by
    intro d
    induction d with
    | zero =>
      intro k m W h1 h2 h3
      have := (hQW m h2).2
      omega
    | succ d ih =>
      intro k m W h1 h2 h3
      obtain ⟨w, w9⟩ := hQW m h2
      have hq1 := hQ1 m h2
      have hn3 := w.2.2.2.2
      have b : (m r 20 ≤ (rx1 m r).2.1 ∧ (rx1 m r).2.1 ≤ m r 6) ∧ (0 ≤ (rx1 m r).1 ∧ (rx1 m r).1 ≤ 1) ∧ ((rx1 m r).1 = 1 → m r 20 < (rx1 m r).2.1) := cmF_b m r (m (r + 16)) w9
      have bN := cmF_N m r (m r 20) (N := m (r + 16)) (fun j => w.1 _ j)
      have bv := cmF_v m r (m r 20) (m (r + 16))
      have hm1 : MWo (rm1 m r) r := mx_W w (by omega) bN
      have em20 : rm1 m r r 20 = (rx1 m r).2.1 := mx_c
      have em6 : rm1 m r r 6 = m r 6 := mx_6
      rw [rrG] at h3
      refine V_aload_n C dX9_runCommands_36 rfl ?_
      refine V_getJ C 20 20 rfl dX9_runCommands_37 o9 rfl hin_X9_runCommands_X9 (by decide) lk_X9_runCommands_289 rfl rfl rfl ?_
      refine V_aload_n C dX9_runCommands_40 rfl ?_
      refine V_getJ C 6 6 rfl dX9_runCommands_41 o9 rfl hin_X9_runCommands_X9 (by decide) lk_X9_runCommands_286 rfl rfl rfl ?_
      refine V_icmp_ge C 86 dX9_runCommands_44 (by decide) (by omega) (by omega) (fun z => ?_) (fun z => ?_)
      · rw [if_neg (by omega)] at h3
        exact last m W k 1 h3.symm w
      · rw [if_pos z] at h3
        have hq1 := hq1 z
        have hcm := u_isCommand (l := xL X) (n := n) (mu := m) (la := upl la r 21 W) (N := m (r + 16)) C.gp hM w.1 hn3 w9
        rw [mx_self, upl_upl] at hcm
        refine V_iload_n C dX9_runCommands_47 rfl ?_
        refine V_if_eq C 86 dX9_runCommands_48 (by decide) (by omega) (fun z2 => ?_) (fun z2 => ?_)
        · exact absurd z2 (by decide)
        · refine V_aload_n C dX9_runCommands_51 rfl ?_
          refine V_callVD (nA := 0) C dX9_runCommands_52 hcm gX9_runCommands_X9_isCommand rfl o9 rfl (by decide +kernel) rfl (by decide) (by decide) (Nat.le_of_ble_eq_true rfl) ⟨by omega, by omega⟩ rfl ?_
          rw [show mxM m r (cmF m r (m r 20) (m (r + 16))).2.1 (cmF m r (m r 20) (m (r + 16))).2.2.2 = rm1 m r from rfl]
          have hb1 : 0 ≤ (rx1 m r).1 ∧ (rx1 m r).1 ≤ 1 := b.2.1
          have hb2 : 0 ≤ (cmF m r (m r 20) (m (r + 16))).1 ∧ (cmF m r (m r 20) (m (r + 16))).1 ≤ 1 := b.2.1
          have stop : ∀ W9, R = (k, rm1 m r, W9) → V X 69 [some (.ref r), some (.int (I32 (-1))), some (.int (I32 k)), some (.int (I32 1))] [] S n (rm1 m r) (upl la r 21 W9) 0 0 := by
            intro W9 hW9
            have hE := last (rm1 m r) W9 k 0 hW9 hm1
            have r6 := hm1.1 r 6
            have r20 := hm1.1 r 20
            refine V_iconst C dX9_runCommands_69 ?_
            refine V_istore_n C dX9_runCommands_70 rfl (by decide) ?_
            refine V_iload_n C dX9_runCommands_71 rfl ?_
            refine V_iload_n C dX9_runCommands_72 rfl ?_
            refine V_if_eq C 80 dX9_runCommands_73 (by decide) (by omega) (fun z4 => ?_) (fun z4 => ?_)
            · refine V_iconst C dX9_runCommands_80 ?_
              refine V_iadd C dX9_runCommands_81 ?_
              rw [Int.add_zero]
              refine V_istore_n C dX9_runCommands_82 rfl (by decide) ?_
              refine V_goto C 36 dX9_runCommands_83 (by decide) ?_
              refine V_aload_n C dX9_runCommands_36 rfl ?_
              refine V_getJ C 20 20 rfl dX9_runCommands_37 o9 rfl hin_X9_runCommands_X9 (by decide) lk_X9_runCommands_289 rfl rfl rfl ?_
              refine V_aload_n C dX9_runCommands_40 rfl ?_
              refine V_getJ C 6 6 rfl dX9_runCommands_41 o9 rfl hin_X9_runCommands_X9 (by decide) lk_X9_runCommands_286 rfl rfl rfl ?_
              refine V_icmp_ge C 86 dX9_runCommands_44 (by decide) (by omega) (by omega) (fun z5 => ?_) (fun z5 => ?_)
              · exact hE
              · refine V_iload_n C dX9_runCommands_47 rfl ?_
                refine V_if_eq C 86 dX9_runCommands_48 (by decide) (by omega) (fun z6 => ?_) (fun z6 => ?_)
                · exact hE
                · exact absurd rfl z6
            · exact absurd rfl z4
          refine V_if_eq C 69 dX9_runCommands_55 (by decide) (by omega) (fun z3 => ?_) (fun z3 => ?_)
          · have z3 : (rx1 m r).1 = 0 := z3
            rw [if_neg (show ¬ (rx1 m r).1 = 1 by omega)] at h3
            exact stop _ h3.symm
          · have z3 : ¬ (rx1 m r).1 = 0 := z3
            have h1 : (rx1 m r).1 = 1 := by omega
            rw [if_pos h1] at h3
            obtain ⟨q1, q2⟩ := hq1 h1
            have bd := dsF_b (rm1 m r) r (rx1 m r).2.2.1
            have bd2 : 0 ≤ dsF (rm1 m r) r (cmF m r (m r 20) (m (r + 16))).2.2.1 ∧ dsF (rm1 m r) r (cmF m r (m r 20) (m (r + 16))).2.2.1 ≤ 3 := bd
            have e20 := dsM_r (rm1 m r) r (rx1 m r).2.2.1 (i := 20) (by decide)
            have e06 := dsM_r (rm1 m r) r (rx1 m r).2.2.1 (i := 6) (by decide)
            have bc := b.2.2 h1
            have hds := u_does (l := xL X) (n := n) (mu := rm1 m r) (la := upl la r 21 (I64 (rx1 m r).2.2.1)) C.gp hM hm1 bv (upl_s _ _ _ _) q1
            refine V_aload_n C dX9_runCommands_58 rfl ?_
            refine V_callVD (nA := 0) C dX9_runCommands_59 hds gX9_runCommands_X9_does rfl o9 rfl (by decide +kernel) rfl (by decide) (by decide) (Nat.le_of_ble_eq_true rfl) ⟨by omega, by omega⟩ rfl ?_
            refine V_if_ne C 69 dX9_runCommands_62 (by decide) (by omega) (fun z4 => ?_) (fun z4 => ?_)
            · rw [if_neg z4] at h3 ⊢
              exact stop _ h3.symm
            · rw [if_pos z4] at h3 ⊢
              have h8 := ih (k + 1) (dsM (rm1 m r) r (rx1 m r).2.2.1) (I64 (rx1 m r).2.2.1) (by rw [e20, e06, em20, em6]; have := bc; omega) (q2 z4) h3
              refine V_iconst C dX9_runCommands_65 ?_
              refine V_goto C 70 dX9_runCommands_66 (by decide) ?_
              refine V_istore_n C dX9_runCommands_70 rfl (by decide) ?_
              refine V_iload_n C dX9_runCommands_71 rfl ?_
              refine V_iload_n C dX9_runCommands_72 rfl ?_
              refine V_if_eq C 80 dX9_runCommands_73 (by decide) (by omega) (fun z5 => ?_) (fun z5 => ?_)
              · exact absurd z5 (by decide)
              · refine V_iconst C dX9_runCommands_76 ?_
                refine V_goto C 81 dX9_runCommands_77 (by decide) ?_
                refine V_iadd C dX9_runCommands_81 ?_
                refine V_istore_n C dX9_runCommands_82 rfl (by decide) ?_
                refine V_goto C 36 dX9_runCommands_83 (by decide) ?_
                exact h8
  refine V_aload_n C dX9_runCommands_0 rfl ?_
  refine V_callVD (nA := 0) C dX9_runCommands_1 (u_faultAt C.gp hM hW.1 hn) gX9_runCommands_X9_faultAt rfl o9 rfl (by decide +kernel) rfl (by decide) (by decide) (Nat.le_of_ble_eq_true rfl) ⟨by omega, by omega⟩ rfl ?_
  rw [hf]
  refine V_istore_n C dX9_runCommands_4 rfl (by decide) ?_
  refine V_iload_n C dX9_runCommands_5 rfl ?_
  refine V_iconst C dX9_runCommands_6 ?_
  refine V_icmp_eq C 19 dX9_runCommands_7 (by decide) (by omega) (by omega) (fun z => ?_) (fun z => ?_)
  · refine V_aload_n C dX9_runCommands_19 rfl ?_
    refine V_callVD (nA := 0) C dX9_runCommands_20 (m_hold C.gp hM) gX9_runCommands_X9_hold rfl o9 rfl (by decide +kernel) rfl (by decide) (by decide) (Nat.le_of_ble_eq_true rfl) ⟨by omega, by omega⟩ rfl ?_
    rw [show cpF (rf1 mu r (la r 21)) (r + 1) (r + 3) 1639 = hdM (rf1 mu r (la r 21)) r from rfl]
    have e0 : up (hdM (rf1 mu r (la r 21)) r) r 20 0 = mxM (hdM (rf1 mu r (la r 21)) r) r 0 (hdM (rf1 mu r (la r 21)) r (r + 16)) := by
      rw [← mxu_c (c := hdM (rf1 mu r (la r 21)) r r 20), mx_self]
    refine V_aload_n C dX9_runCommands_23 rfl ?_
    refine V_iconst C dX9_runCommands_24 ?_
    refine V_putJ C 20 20 rfl dX9_runCommands_25 o9 rfl hin_X9_runCommands_X9 tyX9 tyX9_ok nmX9 (by decide) lk_X9_runCommands_289 rfl rfl (by decide +kernel) rfl (e0) ?_
    refine V_aload_n C dX9_runCommands_28 rfl ?_
    refine V_callVD (nA := 0) C dX9_runCommands_29 (u_skips C.gp hM hW2.1 hn2 (by omega)) gX9_runCommands_X9_skips rfl o9 rfl (by decide +kernel) rfl (by decide) (by decide) (Nat.le_of_ble_eq_true rfl) ⟨by omega, by omega⟩ rfl ?_
    refine V_iconst C dX9_runCommands_32 ?_
    refine V_istore_n C dX9_runCommands_33 rfl (by decide) ?_
    refine V_iconst C dX9_runCommands_34 ?_
    refine V_istore_n C dX9_runCommands_35 rfl (by decide) ?_
    have h20 := (hQW _ hQ0).2
    have hn9 := (hQW _ hQ0).1.2.2.2.2
    exact loop 151 0 _ _ (by show rr0 mu r (la r 21) r 6 - rr0 mu r (la r 21) r 20 < 151; omega) hQ0 eG
  · exact absurd rfl z
end MF
