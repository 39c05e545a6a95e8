/-! THE REFERENCE: what is told -/
def abG (T : Mem) : Nat → Int → Int
  | 0, _ => 0
  | d + 1, x => if x = -1 then 0 else abG T d (T 1 x) + 1
def abE (T : Mem) : Nat → Int → Prop
  | 0, x => x = -1
  | d + 1, x => x = -1 ∨ abE T d (T 1 x)
def phF (Z : Mem) (g : Int) : Int := if 0 < Z 12 g then Z 12 g - 1 else 0
def pvF (mu : Mem) (r : Nat) (T Z : Mem) (p w : Int) : Int :=
  if w < 2 then mu (r + 1) (3 + 2 * p + w) else if w = 2 then sxT T p else if T 9 p = -1 then -1 else
    if w = 7 then (if T 4 (T 9 p) = p then 1 else 0) else if w = 8 then T 10 p else if w = 9 then tbT T (mu (r + 1) 2) (T 9 p) else
      if w = 10 then (if T 1 (T 9 p) = -1 then -1 else T 3 (T 9 p)) else if w = 11 then abG T 40 (T 1 (T 9 p)) else
        if w = 3 then Z 9 (T 9 p) else if w = 4 then Z 10 (T 9 p) + 1 else if w = 5 then Z 11 (T 9 p) else phF Z (T 9 p)
def upT (T : Mem) : Nat → Int → Int
  | 0, x => x
  | d + 1, x => if x = -1 then x else upT T d (T 1 x)
def saF (T : Mem) (p v f : Int) : Int := if sxT T p = 1 then (if f = 1 ∨ upT T v.toNat (T 9 p) = -1 then upT T v.toNat (T 9 p) else T 1 (upT T v.toNat (T 9 p))) else -1
def stF (T Z : Mem) (p v w : Int) : Int :=
  if saF T p v 0 = -1 then -1 else if w = 0 then (if T 0 (saF T p v 0) = 3 then 1 else 0) else if w = 1 then kdT T (saF T p v 0) else if w = 2 then T 2 (saF T p v 1) else
    if w = 3 then Z 7 (saF T p v 0) else if w = 4 then Z 8 (saF T p v 0) else if w = 5 then Z 11 (saF T p v 0) else if w = 6 then Z 12 (saF T p v 0) else Z 13 (saF T p v 0)
def ttF (T : Mem) (P p i : Int) : Int := if T 9 p = -1 then -1 else toT T P (T 9 p) i
def fgT (T : Mem) : Nat → Int → Int
  | 0, x => x
  | d + 1, x => if x ≠ -1 ∧ spT T x = 1 then fgT T d (chT T x 0) else x
def fgE (T : Mem) : Nat → Int → Prop
  | 0, _ => False
  | d + 1, x => x ≠ -1 ∧ spT T x = 1 → fgE T d (chT T x 0)
def naC (T : Mem) (x : Int) : Prop := T 1 x ≠ -1 ∧ chT T (T 1 x) (T 2 x + 1) = -1
def naT (T : Mem) : Nat → Int → Int
  | 0, x => x
  | d + 1, x => if T 1 x ≠ -1 ∧ chT T (T 1 x) (T 2 x + 1) = -1 then naT T d (T 1 x) else x
def naE (T : Mem) : Nat → Int → Prop
  | 0, _ => False
  | d + 1, x => T 1 x ≠ -1 ∧ chT T (T 1 x) (T 2 x + 1) = -1 → naE T d (T 1 x)
def nxT (T : Mem) (x : Int) : Int := if T 1 (naT T 40 x) = -1 then -1 else fgT T 40 (chT T (T 1 (naT T 40 x)) (T 2 (naT T 40 x) + 1))
def gtT (T : Mem) : Nat → Int → Int
  | 0, x => x
  | d + 1, x => if x = -1 then x else gtT T d (nxT T x)
def gvT (T : Mem) (i : Int) : Int := if gtT T i.toNat (fgT T 40 (rtT T)) = -1 then -1 else T 4 (gtT T i.toNat (fgT T 40 (rtT T)))
def okG (T : Mem) : Prop := ∀ x, 0 ≤ x ∧ x < 32 → 1 ≤ T 0 x ∧ T 0 x ≤ 3 → fgE T 40 x ∧ naE T 40 x
def fvG (T : Mem) (k : Int) : Nat → Int
  | 0 => -1
  | m + 1 => if T 0 m = 4 ∧ T 2 m = k then T 4 m else fvG T k m
def dvI (T Z : Mem) (k : Int) : Int := if spT T (Z 6 k) = 1 then (kdT T (Z 6 k) - 1) * (if T 0 (Z 6 k) = 2 then Z 12 (Z 6 k) else Z 11 (Z 6 k)) else 0
def isS (T : Mem) (s p : Int) : Int := if sxT T p = s then 1 else 0
def wvF (mu : Mem) (r : Nat) (T : Mem) (q : Int) (Z : Mem) (w : Int) : Int :=
  if w ≤ 2 then mu (r + 1) w else if w = 3 then smG (isS T 1) (mu (r + 1) 2).toNat else if w = 4 then smG (isS T 2) (mu (r + 1) 2).toNat else if w = 5 then ctT T 1 else if w = 6 then ctT T 2 + ctT T 3 else
    if w = 7 then ctT T 4 else if w = 8 then (if q = 0 then 0 else Z 7 (Z 6 0)) else if w = 9 then (if q = 0 then 0 else Z 8 (Z 6 0)) else if w = 10 then smG (fun k => Z 13 (Z 6 k)) q.toNat else smG (dvI T Z) q.toNat
def cvT (Z : Mem) (g x y : Int) : Int := if (Z 9 g ≤ x ∧ x ≤ wr (Z 9 g + Z 11 g - 1)) ∧ Z 10 g ≤ y ∧ y ≤ wr (Z 10 g + Z 12 g - 1) then 1 else 0
def tpG (T Z : Mem) (x y : Int) : Nat → Int
  | 0 => -1
  | m + 1 => if T 0 m = 4 ∧ cvT Z m x y = 1 then (if tpG T Z x y m = -1 ∨ T 2 (tpG T Z x y m) < T 2 m then (m : Int) else tpG T Z x y m) else tpG T Z x y m
def trI (T Z : Mem) (x y g : Int) : Int := if T 0 g = 1 ∧ cvT Z g x y = 1 then 1 else 0
def pnT (T Z : Mem) (x y : Int) : Int := if tpG T Z x y 32 ≠ -1 then tpG T Z x y 32 else laG (trI T Z x y) 32
def ptV (T Z : Mem) (x y : Int) : Int := if pnT T Z x y = -1 then -1 else T 4 (pnT T Z x y)
theorem laG_1 (f : Int → Int) : ∀ m : Nat, laG f m ≠ -1 → f (laG f m) = 1
  | 0, h => absurd rfl h
  | m + 1, h => by
    rw [laG] at h ⊢
    split
    · assumption
    · rename_i z
      rw [if_neg z] at h
      exact laG_1 f m h
theorem fmG_1 (f : Int → Int) (e : Int) : ∀ d : Nat, fmG f e d ≠ -1 → f (fmG f e d) = 1
  | 0, h => absurd rfl h
  | d + 1, h => by
    rw [fmG] at h ⊢
    split
    · assumption
    · rename_i z
      rw [if_neg z] at h
      exact fmG_1 f e d h
theorem chT_t {T : Mem} {h k : Int} (hc : chT T h k ≠ -1) : (1 ≤ T 0 (chT T h k) ∧ T 0 (chT T h k) ≤ 3) ∧ T 1 (chT T h k) = h ∧ T 2 (chT T h k) = k := by
  have := laG_1 (isC T h k) 32 hc
  have h2 : isC T h k (chT T h k) = 1 := this
  unfold isC at h2
  split at h2
  · assumption
  · omega
theorem rtT_t {T : Mem} (hc : rtT T ≠ -1) : (1 ≤ T 0 (rtT T) ∧ T 0 (rtT T) ≤ 3) ∧ T 1 (rtT T) = -1 := by
  have h2 : isT T (-1) (rtT T) = 1 := fmG_1 (isT T (-1)) 32 32 hc
  unfold isT at h2
  split at h2
  · assumption
  · omega
def nd (T : Mem) (x : Int) : Prop := x = -1 ∨ ((0 ≤ x ∧ x < 32) ∧ 1 ≤ T 0 x ∧ T 0 x ≤ 3)
theorem nd_ch (T : Mem) (h k : Int) : nd T (chT T h k) := by
  by_cases z : chT T h k = -1
  · exact Or.inl z
  · have := chT_b T h k
    exact Or.inr ⟨by omega, (chT_t z).1⟩
theorem nd_rt (T : Mem) : nd T (rtT T) := by
  by_cases z : rtT T = -1
  · exact Or.inl z
  · have := rtT_b T
    exact Or.inr ⟨by omega, (rtT_t z).1⟩
theorem nd_fg {T : Mem} : ∀ (d : Nat) (x : Int), nd T x → nd T (fgT T d x)
  | 0, x, h => h
  | d + 1, x, h => by
    rw [fgT]
    split
    · exact nd_fg d _ (nd_ch T x 0)
    · exact h
theorem nd_nx (T : Mem) (x : Int) : nd T (nxT T x) := by
  unfold nxT
  split
  · exact Or.inl rfl
  · exact nd_fg 40 _ (nd_ch _ _ _)
theorem upT_b {N : Int} {T : Mem} (hB : TB N T) : ∀ (d : Nat) (x : Int), -1 ≤ x ∧ x < 32 → -1 ≤ upT T d x ∧ upT T d x < 32
  | 0, x, h => h
  | d + 1, x, h => by
    rw [upT]
    split
    · exact h
    · have := hB.p (i := x) (by omega)
      exact upT_b hB d _ (by omega)
section MB
variable {G : Gx} {l : Launch} {S : Sh} {n : Nat} {mu T Z : Mem} {la : Lam} {r : Nat}
set_option maxRecDepth 20000 in
theorem ggX9_above_X9_of : GoodIn wsX9_above wsX9_of := goodIn_r _ [5, 6, 7, 8, 9, 10, 11, 12, 13, 14, 15, 16, 17, 18, 19, 20, 21, 22, 23, 24, 25, 26, 27, 28, 29, 30] (by decide +kernel) (by decide +kernel)
set_option maxRecDepth 20000 in
theorem gX9_above_X9_of : GoodIn wsX9_above (wsV RX9 77 RX9 yX9_of wsX9_of) := goodIn_app (goodIn_of _ (by decide +kernel)) ggX9_above_X9_of
theorem dX9_above_0 : decode cX9_above 0 = .ok (.iconst 0, 1) := by decide +kernel
theorem dX9_above_1 : decode cX9_above 1 = .ok (.istore_n 2, 1) := by decide +kernel
theorem dX9_above_2 : decode cX9_above 2 = .ok (.aload_n 0, 1) := by decide +kernel
theorem dX9_above_3 : decode cX9_above 3 = .ok (.iload_n 1, 1) := by decide +kernel
theorem dX9_above_4 : decode cX9_above 4 = .ok (.iconst 1, 1) := by decide +kernel
theorem dX9_above_5 : decode cX9_above 5 = .ok (.invokevirtual 77, 3) := by decide +kernel
theorem dX9_above_8 : decode cX9_above 8 = .ok (.istore_n 3, 1) := by decide +kernel
theorem dX9_above_9 : decode cX9_above 9 = .ok (.iload_n 3, 1) := by decide +kernel
theorem dX9_above_10 : decode cX9_above 10 = .ok (.iconst (-1), 1) := by decide +kernel
theorem dX9_above_11 : decode cX9_above 11 = .ok (.if_icmp .eq 16, 3) := by decide +kernel
theorem dX9_above_14 : decode cX9_above 14 = .ok (.iinc 2 1, 3) := by decide +kernel
theorem dX9_above_17 : decode cX9_above 17 = .ok (.aload_n 0, 1) := by decide +kernel
theorem dX9_above_18 : decode cX9_above 18 = .ok (.iload_n 3, 1) := by decide +kernel
theorem dX9_above_19 : decode cX9_above 19 = .ok (.iconst 1, 1) := by decide +kernel
theorem dX9_above_20 : decode cX9_above 20 = .ok (.invokevirtual 77, 3) := by decide +kernel
theorem dX9_above_23 : decode cX9_above 23 = .ok (.istore_n 3, 1) := by decide +kernel
theorem dX9_above_24 : decode cX9_above 24 = .ok (.goto (-15), 3) := by decide +kernel
theorem dX9_above_27 : decode cX9_above 27 = .ok (.iload_n 2, 1) := by decide +kernel
theorem dX9_above_28 : decode cX9_above 28 = .ok (.ireturn, 1) := by decide +kernel
theorem m_above (hG : GP G) (hM : MoS S r) {N : Int} (hB : TB N T) (hN : N ≤ 1073740000) {x : Int} (hx : 0 ≤ x ∧ x < 32) (he : abE T 40 (T 1 x)) : Ct G l yX9_above wsX9_above 1 0 0 [.ref r, .int (I32 x)] S n (ptT mu r T) la (Dt (some (.int (I32 (abG T 40 (T 1 x))))) S n (ptT mu r T) la) := by
  have o9 := hM.1
  have b1 := hB.p hx
  generalize eR : abG T 40 (T 1 x) = R
  refine Ct.ofV (cc := cX9_above) (nL := 4) (ret := (some .int)) [some (.ref r), some (.int (I32 x)), none, none] hG (by decide) rfl (Nat.le_of_ble_eq_true rfl) rfl ?_
  rintro X rfl rfl C hcl hsl E
  have loop : ∀ (d : Nat) (y c : Int), (-1 ≤ y ∧ y < 32) → abE T d y → abG T d y + c = R → V X 9 [some (.ref r), some (.int (I32 x)), some (.int (I32 c)), some (.int (I32 y))] [] S n (ptT mu r T) la 0 0 := by
    intro d
    induction d with
    | zero =>
      intro y c h1 h2 h3
      rw [abG] at h3
      have h2 : y = -1 := h2
      refine V_iload_n C dX9_above_9 rfl ?_
      refine V_iconst C dX9_above_10 ?_
      refine V_icmp_eq C 27 dX9_above_11 (by decide) (by omega) (by omega) (fun z11 => ?_) (fun z11 => ?_)
      · refine V_iload_n C dX9_above_27 rfl ?_
        refine V_ireturn C E dX9_above_28 (by omega) (by omega) ?_
        rw [show c = R by omega]
        exact Dt_rfl
      · exact absurd z11 (by first | omega | decide)
    | succ d ih =>
      intro y c h1 h2 h3
      rw [abG] at h3
      refine V_iload_n C dX9_above_9 rfl ?_
      refine V_iconst C dX9_above_10 ?_
      refine V_icmp_eq C 27 dX9_above_11 (by decide) (by omega) (by omega) (fun z => ?_) (fun z => ?_)
      · rw [if_pos z] at h3
        refine V_iload_n C dX9_above_27 rfl ?_
        refine V_ireturn C E dX9_above_28 (by omega) (by omega) ?_
        rw [show c = R by omega]; exact Dt_rfl
      · rw [if_neg z] at h3
        have h2 : y = -1 ∨ abE T d (T 1 y) := h2
        have b2 := hB.p (i := y) (by omega)
        refine V_iinc C dX9_above_14 rfl rfl (by decide) ?_
        refine V_aload_n C dX9_above_17 rfl ?_
        refine V_iload_n C dX9_above_18 rfl ?_
        refine V_iconst C dX9_above_19 ?_
        refine V_callVD (nA := 2) C dX9_above_20 (m_of C.gp hM (by omega) 1 (by decide) rfl) gX9_above_X9_of rfl o9 rfl (by decide +kernel) rfl (by decide) (by decide) (Nat.le_of_ble_eq_true rfl) ⟨by omega, by omega⟩ rfl ?_
        refine V_istore_n C dX9_above_23 rfl (by decide) ?_
        refine V_goto C 9 dX9_above_24 (by decide) ?_
        exact ih (T 1 y) (c + 1) (by omega) (by rcases h2 with h2 | h2; exact absurd h2 z; exact h2) (by omega)
  refine V_iconst C dX9_above_0 ?_
  refine V_istore_n C dX9_above_1 rfl (by decide) ?_
  refine V_aload_n C dX9_above_2 rfl ?_
  refine V_iload_n C dX9_above_3 rfl ?_
  refine V_iconst C dX9_above_4 ?_
  refine V_callVD (nA := 2) C dX9_above_5 (m_of C.gp hM hx 1 (by decide) rfl) gX9_above_X9_of rfl o9 rfl (by decide +kernel) rfl (by decide) (by decide) (Nat.le_of_ble_eq_true rfl) ⟨by omega, by omega⟩ rfl ?_
  refine V_istore_n C dX9_above_8 rfl (by decide) ?_
  exact loop 40 _ 0 (by omega) he (by omega)
theorem dX9_paneHigh_0 : decode cX9_paneHigh 0 = .ok (.aload_n 0, 1) := by decide +kernel
theorem dX9_paneHigh_1 : decode cX9_paneHigh 1 = .ok (.getfield 43, 3) := by decide +kernel
theorem dX9_paneHigh_4 : decode cX9_paneHigh 4 = .ok (.iload_n 1, 1) := by decide +kernel
theorem dX9_paneHigh_5 : decode cX9_paneHigh 5 = .ok (.iaload, 1) := by decide +kernel
theorem dX9_paneHigh_6 : decode cX9_paneHigh 6 = .ok (.ifCond .le 14, 3) := by decide +kernel
theorem dX9_paneHigh_9 : decode cX9_paneHigh 9 = .ok (.aload_n 0, 1) := by decide +kernel
theorem dX9_paneHigh_10 : decode cX9_paneHigh 10 = .ok (.getfield 43, 3) := by decide +kernel
theorem dX9_paneHigh_13 : decode cX9_paneHigh 13 = .ok (.iload_n 1, 1) := by decide +kernel
theorem dX9_paneHigh_14 : decode cX9_paneHigh 14 = .ok (.iaload, 1) := by decide +kernel
theorem dX9_paneHigh_15 : decode cX9_paneHigh 15 = .ok (.iconst 1, 1) := by decide +kernel
theorem dX9_paneHigh_16 : decode cX9_paneHigh 16 = .ok (.isub, 1) := by decide +kernel
theorem dX9_paneHigh_17 : decode cX9_paneHigh 17 = .ok (.goto 4, 3) := by decide +kernel
theorem dX9_paneHigh_20 : decode cX9_paneHigh 20 = .ok (.iconst 0, 1) := by decide +kernel
theorem dX9_paneHigh_21 : decode cX9_paneHigh 21 = .ok (.ireturn, 1) := by decide +kernel
theorem hin_X9_paneHigh_X9 : ∀ w ∈ wsX90, w ∈ wsX9_paneHigh := by decide +kernel
theorem lk_X9_paneHigh_43 : Cond.fieldLink RX9 43 RX9 "boxH" "[I" ∈ wsX9_paneHigh := by decide +kernel
theorem m_paneHigh (hG : GP G) (hM : MoS S r) (hR : R32Z Z) {q x : Int} (hx : 0 ≤ x ∧ x < 32) : Ct G l yX9_paneHigh wsX9_paneHigh 0 0 0 [.ref r, .int (I32 x)] S n (lyM mu r T q Z) la (Dt (some (.int (I32 (phF Z x)))) S n (lyM mu r T q Z) la) := by
  have o9 := hM.1
  have q12 := hR 12 x (by decide)
  refine Ct.ofV (cc := cX9_paneHigh) (nL := 2) (ret := (some .int)) [some (.ref r), some (.int (I32 x))] hG (by decide) rfl (Nat.le_of_ble_eq_true rfl) rfl ?_
  rintro X rfl rfl C hcl hsl E
  refine V_aload_n C dX9_paneHigh_0 rfl ?_
  refine V_getR C 15 dX9_paneHigh_1 o9 rfl hin_X9_paneHigh_X9 (by decide) lk_X9_paneHigh_43 rfl rfl ?_
  refine V_iload_n C dX9_paneHigh_4 rfl ?_
  refine V_ialdJ C dX9_paneHigh_5 (hM.k ⟨by decide,by decide⟩) (by first | assumption | decide) (by omega) (zM_k (by decide)) ?_
  refine V_if_le C 20 dX9_paneHigh_6 (by decide) (by omega) (fun z6 => ?_) (fun z6 => ?_)
  · refine V_iconst C dX9_paneHigh_20 ?_
    refine V_ireturn C E dX9_paneHigh_21 (by omega) (by omega) ?_
    exact Dt_int (by unfold phF; (repeat' split) <;> first | rfl | omega)
  · refine V_aload_n C dX9_paneHigh_9 rfl ?_
    refine V_getR C 15 dX9_paneHigh_10 o9 rfl hin_X9_paneHigh_X9 (by decide) lk_X9_paneHigh_43 rfl rfl ?_
    refine V_iload_n C dX9_paneHigh_13 rfl ?_
    refine V_ialdJ C dX9_paneHigh_14 (hM.k ⟨by decide,by decide⟩) (by first | assumption | decide) (by omega) (zM_k (by decide)) ?_
    refine V_iconst C dX9_paneHigh_15 ?_
    refine V_isub C dX9_paneHigh_16 ?_
    refine V_goto C 21 dX9_paneHigh_17 (by decide) ?_
    refine V_ireturn C E dX9_paneHigh_21 (by omega) (by omega) ?_
    exact Dt_int (by unfold phF; (repeat' split) <;> first | rfl | omega)
set_option maxRecDepth 20000 in
theorem ggX9_boxOf_X9_paneHigh : GoodIn wsX9_boxOf wsX9_paneHigh := goodIn_r _ [8, 9, 10, 11, 12, 13, 14, 15, 16, 17, 18, 19, 20, 21, 22, 23, 24, 25, 26, 27, 28, 29, 30, 31, 32, 33] (by decide +kernel) (by decide +kernel)
set_option maxRecDepth 20000 in
theorem gX9_boxOf_X9_paneHigh : GoodIn wsX9_boxOf (wsV RX9 234 RX9 yX9_paneHigh wsX9_paneHigh) := goodIn_app (goodIn_of _ (by decide +kernel)) ggX9_boxOf_X9_paneHigh
theorem dX9_boxOf_0 : decode cX9_boxOf 0 = .ok (.iload_n 2, 1) := by decide +kernel
theorem dX9_boxOf_1 : decode cX9_boxOf 1 = .ok (.tableswitch 50 3 5 #[27, 34, 43], 27) := by decide +kernel
theorem dX9_boxOf_28 : decode cX9_boxOf 28 = .ok (.aload_n 0, 1) := by decide +kernel
theorem dX9_boxOf_29 : decode cX9_boxOf 29 = .ok (.getfield 34, 3) := by decide +kernel
theorem dX9_boxOf_32 : decode cX9_boxOf 32 = .ok (.iload_n 1, 1) := by decide +kernel
theorem dX9_boxOf_33 : decode cX9_boxOf 33 = .ok (.iaload, 1) := by decide +kernel
theorem dX9_boxOf_34 : decode cX9_boxOf 34 = .ok (.ireturn, 1) := by decide +kernel
theorem dX9_boxOf_35 : decode cX9_boxOf 35 = .ok (.aload_n 0, 1) := by decide +kernel
theorem dX9_boxOf_36 : decode cX9_boxOf 36 = .ok (.getfield 37, 3) := by decide +kernel
theorem dX9_boxOf_39 : decode cX9_boxOf 39 = .ok (.iload_n 1, 1) := by decide +kernel
theorem dX9_boxOf_40 : decode cX9_boxOf 40 = .ok (.iaload, 1) := by decide +kernel
theorem dX9_boxOf_41 : decode cX9_boxOf 41 = .ok (.iconst 1, 1) := by decide +kernel
theorem dX9_boxOf_42 : decode cX9_boxOf 42 = .ok (.iadd, 1) := by decide +kernel
theorem dX9_boxOf_43 : decode cX9_boxOf 43 = .ok (.ireturn, 1) := by decide +kernel
theorem dX9_boxOf_44 : decode cX9_boxOf 44 = .ok (.aload_n 0, 1) := by decide +kernel
theorem dX9_boxOf_45 : decode cX9_boxOf 45 = .ok (.getfield 40, 3) := by decide +kernel
theorem dX9_boxOf_48 : decode cX9_boxOf 48 = .ok (.iload_n 1, 1) := by decide +kernel
theorem dX9_boxOf_49 : decode cX9_boxOf 49 = .ok (.iaload, 1) := by decide +kernel
theorem dX9_boxOf_50 : decode cX9_boxOf 50 = .ok (.ireturn, 1) := by decide +kernel
theorem dX9_boxOf_51 : decode cX9_boxOf 51 = .ok (.aload_n 0, 1) := by decide +kernel
theorem dX9_boxOf_52 : decode cX9_boxOf 52 = .ok (.iload_n 1, 1) := by decide +kernel
theorem dX9_boxOf_53 : decode cX9_boxOf 53 = .ok (.invokevirtual 234, 3) := by decide +kernel
theorem dX9_boxOf_56 : decode cX9_boxOf 56 = .ok (.ireturn, 1) := by decide +kernel
theorem hin_X9_boxOf_X9 : ∀ w ∈ wsX90, w ∈ wsX9_boxOf := by decide +kernel
theorem lk_X9_boxOf_34 : Cond.fieldLink RX9 34 RX9 "boxX" "[I" ∈ wsX9_boxOf := by decide +kernel
theorem lk_X9_boxOf_37 : Cond.fieldLink RX9 37 RX9 "boxY" "[I" ∈ wsX9_boxOf := by decide +kernel
theorem lk_X9_boxOf_40 : Cond.fieldLink RX9 40 RX9 "boxW" "[I" ∈ wsX9_boxOf := by decide +kernel
theorem m_boxOf (hG : GP G) (hM : MoS S r) (hR : R32Z Z) {q x w : Int} (hx : 0 ≤ x ∧ x < 32) (hw : 3 ≤ w ∧ w ≤ 6) : Ct G l yX9_boxOf wsX9_boxOf 1 0 0 [.ref r, .int (I32 x), .int (I32 w)] S n (lyM mu r T q Z) la (Dt (some (.int (I32 (if w = 3 then Z 9 x else if w = 4 then Z 10 x + 1 else if w = 5 then Z 11 x else phF Z x)))) S n (lyM mu r T q Z) la) := by
  have o9 := hM.1
  refine Ct.ofV (cc := cX9_boxOf) (nL := 3) (ret := (some .int)) [some (.ref r), some (.int (I32 x)), some (.int (I32 w))] hG (by decide) rfl (Nat.le_of_ble_eq_true rfl) rfl ?_
  rintro X rfl rfl C hcl hsl E
  have hw9 : w = 3 ∨ w = 4 ∨ w = 5 ∨ w = 6 := by omega
  rcases hw9 with rfl | rfl | rfl | rfl
  · refine V_iload_n C dX9_boxOf_0 rfl ?_
    refine V_tableIn C 28 dX9_boxOf_1 (by omega) (by omega) (by omega) rfl (by decide) ?_
    refine V_aload_n C dX9_boxOf_28 rfl ?_
    refine V_getR C 12 dX9_boxOf_29 o9 rfl hin_X9_boxOf_X9 (by decide) lk_X9_boxOf_34 rfl rfl ?_
    refine V_iload_n C dX9_boxOf_32 rfl ?_
    refine V_ialdJ C dX9_boxOf_33 (hM.k ⟨by decide,by decide⟩) (by first | assumption | decide) (by omega) (zM_k (by decide)) ?_
    refine V_ireturn C E dX9_boxOf_34 (by omega) (by omega) ?_
    exact Dt_rfl
  · refine V_iload_n C dX9_boxOf_0 rfl ?_
    refine V_tableIn C 35 dX9_boxOf_1 (by omega) (by omega) (by omega) rfl (by decide) ?_
    refine V_aload_n C dX9_boxOf_35 rfl ?_
    refine V_getR C 13 dX9_boxOf_36 o9 rfl hin_X9_boxOf_X9 (by decide) lk_X9_boxOf_37 rfl rfl ?_
    refine V_iload_n C dX9_boxOf_39 rfl ?_
    refine V_ialdJ C dX9_boxOf_40 (hM.k ⟨by decide,by decide⟩) (by first | assumption | decide) (by omega) (zM_k (by decide)) ?_
    refine V_iconst C dX9_boxOf_41 ?_
    refine V_iadd C dX9_boxOf_42 ?_
    refine V_ireturn C E dX9_boxOf_43 (by omega) (by omega) ?_
    exact Dt_rfl
  · refine V_iload_n C dX9_boxOf_0 rfl ?_
    refine V_tableIn C 44 dX9_boxOf_1 (by omega) (by omega) (by omega) rfl (by decide) ?_
    refine V_aload_n C dX9_boxOf_44 rfl ?_
    refine V_getR C 14 dX9_boxOf_45 o9 rfl hin_X9_boxOf_X9 (by decide) lk_X9_boxOf_40 rfl rfl ?_
    refine V_iload_n C dX9_boxOf_48 rfl ?_
    refine V_ialdJ C dX9_boxOf_49 (hM.k ⟨by decide,by decide⟩) (by first | assumption | decide) (by omega) (zM_k (by decide)) ?_
    refine V_ireturn C E dX9_boxOf_50 (by omega) (by omega) ?_
    exact Dt_rfl
  · refine V_iload_n C dX9_boxOf_0 rfl ?_
    refine V_tableOut C 51 dX9_boxOf_1 (by omega) (by omega) (by decide) ?_
    refine V_aload_n C dX9_boxOf_51 rfl ?_
    refine V_iload_n C dX9_boxOf_52 rfl ?_
    refine V_callVD (nA := 1) C dX9_boxOf_53 (m_paneHigh C.gp hM hR hx) gX9_boxOf_X9_paneHigh rfl o9 rfl (by decide +kernel) rfl (by decide) (by decide) (Nat.le_of_ble_eq_true rfl) ⟨by omega, by omega⟩ rfl ?_
    refine V_ireturn C E dX9_boxOf_56 (by omega) (by omega) ?_
    exact Dt_rfl
set_option maxRecDepth 20000 in
theorem ggX9_paneTold_X9_groupOf : GoodIn wsX9_paneTold wsX9_groupOf := goodIn_r _ [6, 1, 39, 40, 41, 42, 43, 44, 45, 46, 47, 48, 49, 50, 51, 52, 53, 54, 55, 56, 57, 58, 59, 60, 61, 62] (by decide +kernel) (by decide +kernel)
set_option maxRecDepth 20000 in
theorem gX9_paneTold_X9_groupOf : GoodIn wsX9_paneTold (wsV RX9 85 RX9 yX9_groupOf wsX9_groupOf) := goodIn_app (goodIn_of _ (by decide +kernel)) ggX9_paneTold_X9_groupOf
set_option maxRecDepth 20000 in
theorem ggX9_paneTold_X9_stateOf : GoodIn wsX9_paneTold wsX9_stateOf := goodIn_r _ [10, 2, 3, 4, 5, 6, 1, 11, 12, 13, 14, 39, 40, 41, 42, 43, 44, 45, 46, 47, 48, 49, 50, 51, 52, 53, 54, 55, 56, 57, 58, 59, 60, 61, 62] (by decide +kernel) (by decide +kernel)
set_option maxRecDepth 20000 in
theorem gX9_paneTold_X9_stateOf : GoodIn wsX9_paneTold (wsV RX9 159 RX9 yX9_stateOf wsX9_stateOf) := goodIn_app (goodIn_of _ (by decide +kernel)) ggX9_paneTold_X9_stateOf
set_option maxRecDepth 20000 in
theorem ggX9_paneTold_X9_of : GoodIn wsX9_paneTold wsX9_of := goodIn_r _ [14, 1, 39, 40, 41, 42, 43, 44, 45, 46, 47, 48, 49, 50, 51, 52, 53, 54, 55, 56, 57, 58, 59, 60, 61, 62] (by decide +kernel) (by decide +kernel)
set_option maxRecDepth 20000 in
theorem gX9_paneTold_X9_of : GoodIn wsX9_paneTold (wsV RX9 77 RX9 yX9_of wsX9_of) := goodIn_app (goodIn_of _ (by decide +kernel)) ggX9_paneTold_X9_of
set_option maxRecDepth 20000 in
theorem ggX9_paneTold_X9_placeOf : GoodIn wsX9_paneTold wsX9_placeOf := goodIn_r _ [18, 1, 39, 40, 41, 42, 43, 44, 45, 46, 47, 48, 49, 50, 51, 52, 53, 54, 55, 56, 57, 58, 59, 60, 61, 62] (by decide +kernel) (by decide +kernel)
set_option maxRecDepth 20000 in
theorem gX9_paneTold_X9_placeOf : GoodIn wsX9_paneTold (wsV RX9 88 RX9 yX9_placeOf wsX9_placeOf) := goodIn_app (goodIn_of _ (by decide +kernel)) ggX9_paneTold_X9_placeOf
set_option maxRecDepth 20000 in
theorem ggX9_paneTold_X9_tabs : GoodIn wsX9_paneTold wsX9_tabs := goodIn_r _ [22, 1, 2, 3, 4, 5, 6, 39, 40, 41, 42, 43, 44, 45, 46, 47, 48, 49, 50, 51, 52, 53, 54, 55, 56, 57, 58, 59, 60, 61, 62] (by decide +kernel) (by decide +kernel)
set_option maxRecDepth 20000 in
theorem gX9_paneTold_X9_tabs : GoodIn wsX9_paneTold (wsV RX9 135 RX9 yX9_tabs wsX9_tabs) := goodIn_app (goodIn_of _ (by decide +kernel)) ggX9_paneTold_X9_tabs
set_option maxRecDepth 20000 in
theorem ggX9_paneTold_X9_above : GoodIn wsX9_paneTold wsX9_above := goodIn_r _ [26, 11, 12, 13, 5, 14, 1, 39, 40, 41, 42, 43, 44, 45, 46, 47, 48, 49, 50, 51, 52, 53, 54, 55, 56, 57, 58, 59, 60, 61, 62] (by decide +kernel) (by decide +kernel)
set_option maxRecDepth 20000 in
theorem gX9_paneTold_X9_above : GoodIn wsX9_paneTold (wsV RX9 237 RX9 yX9_above wsX9_above) := goodIn_app (goodIn_of _ (by decide +kernel)) ggX9_paneTold_X9_above
set_option maxRecDepth 20000 in
theorem ggX9_paneTold_X9_boxOf : GoodIn wsX9_paneTold wsX9_boxOf := goodIn_r _ [30, 31, 32, 33, 34, 35, 36, 5, 37, 38, 39, 40, 41, 42, 43, 44, 45, 46, 47, 48, 49, 50, 51, 52, 53, 54, 55, 56, 57, 58, 59, 60, 61, 62] (by decide +kernel) (by decide +kernel)
set_option maxRecDepth 20000 in
theorem gX9_paneTold_X9_boxOf : GoodIn wsX9_paneTold (wsV RX9 240 RX9 yX9_boxOf wsX9_boxOf) := goodIn_app (goodIn_of _ (by decide +kernel)) ggX9_paneTold_X9_boxOf
theorem dX9_paneTold_0 : decode cX9_paneTold 0 = .ok (.iload_n 2, 1) := by decide +kernel
theorem dX9_paneTold_1 : decode cX9_paneTold 1 = .ok (.iconst 2, 1) := by decide +kernel
theorem dX9_paneTold_2 : decode cX9_paneTold 2 = .ok (.if_icmp .ge 16, 3) := by decide +kernel
theorem dX9_paneTold_5 : decode cX9_paneTold 5 = .ok (.aload_n 0, 1) := by decide +kernel
theorem dX9_paneTold_6 : decode cX9_paneTold 6 = .ok (.getfield 7, 3) := by decide +kernel
theorem dX9_paneTold_9 : decode cX9_paneTold 9 = .ok (.iconst 3, 1) := by decide +kernel
theorem dX9_paneTold_10 : decode cX9_paneTold 10 = .ok (.iconst 2, 1) := by decide +kernel
theorem dX9_paneTold_11 : decode cX9_paneTold 11 = .ok (.iload_n 1, 1) := by decide +kernel
theorem dX9_paneTold_12 : decode cX9_paneTold 12 = .ok (.imul, 1) := by decide +kernel
theorem dX9_paneTold_13 : decode cX9_paneTold 13 = .ok (.iadd, 1) := by decide +kernel
theorem dX9_paneTold_14 : decode cX9_paneTold 14 = .ok (.iload_n 2, 1) := by decide +kernel
theorem dX9_paneTold_15 : decode cX9_paneTold 15 = .ok (.iadd, 1) := by decide +kernel
theorem dX9_paneTold_16 : decode cX9_paneTold 16 = .ok (.iaload, 1) := by decide +kernel
theorem dX9_paneTold_17 : decode cX9_paneTold 17 = .ok (.ireturn, 1) := by decide +kernel
theorem dX9_paneTold_18 : decode cX9_paneTold 18 = .ok (.aload_n 0, 1) := by decide +kernel
theorem dX9_paneTold_19 : decode cX9_paneTold 19 = .ok (.iload_n 1, 1) := by decide +kernel
theorem dX9_paneTold_20 : decode cX9_paneTold 20 = .ok (.invokevirtual 85, 3) := by decide +kernel
theorem dX9_paneTold_23 : decode cX9_paneTold 23 = .ok (.istore_n 3, 1) := by decide +kernel
theorem dX9_paneTold_24 : decode cX9_paneTold 24 = .ok (.iload_n 2, 1) := by decide +kernel
theorem dX9_paneTold_25 : decode cX9_paneTold 25 = .ok (.iconst 2, 1) := by decide +kernel
theorem dX9_paneTold_26 : decode cX9_paneTold 26 = .ok (.if_icmp .ne 9, 3) := by decide +kernel
theorem dX9_paneTold_29 : decode cX9_paneTold 29 = .ok (.aload_n 0, 1) := by decide +kernel
theorem dX9_paneTold_30 : decode cX9_paneTold 30 = .ok (.iload_n 1, 1) := by decide +kernel
theorem dX9_paneTold_31 : decode cX9_paneTold 31 = .ok (.invokevirtual 159, 3) := by decide +kernel
theorem dX9_paneTold_34 : decode cX9_paneTold 34 = .ok (.ireturn, 1) := by decide +kernel
theorem dX9_paneTold_35 : decode cX9_paneTold 35 = .ok (.iload_n 3, 1) := by decide +kernel
theorem dX9_paneTold_36 : decode cX9_paneTold 36 = .ok (.iconst (-1), 1) := by decide +kernel
theorem dX9_paneTold_37 : decode cX9_paneTold 37 = .ok (.if_icmp .ne 5, 3) := by decide +kernel
theorem dX9_paneTold_40 : decode cX9_paneTold 40 = .ok (.iconst (-1), 1) := by decide +kernel
theorem dX9_paneTold_41 : decode cX9_paneTold 41 = .ok (.ireturn, 1) := by decide +kernel
theorem dX9_paneTold_42 : decode cX9_paneTold 42 = .ok (.iload_n 2, 1) := by decide +kernel
theorem dX9_paneTold_43 : decode cX9_paneTold 43 = .ok (.tableswitch 88 7 11 #[33, 49, 55, 61, 82], 33) := by decide +kernel
theorem dX9_paneTold_76 : decode cX9_paneTold 76 = .ok (.aload_n 0, 1) := by decide +kernel
theorem dX9_paneTold_77 : decode cX9_paneTold 77 = .ok (.iload_n 3, 1) := by decide +kernel
theorem dX9_paneTold_78 : decode cX9_paneTold 78 = .ok (.iconst 4, 1) := by decide +kernel
theorem dX9_paneTold_79 : decode cX9_paneTold 79 = .ok (.invokevirtual 77, 3) := by decide +kernel
theorem dX9_paneTold_82 : decode cX9_paneTold 82 = .ok (.iload_n 1, 1) := by decide +kernel
theorem dX9_paneTold_83 : decode cX9_paneTold 83 = .ok (.if_icmp .ne 7, 3) := by decide +kernel
theorem dX9_paneTold_86 : decode cX9_paneTold 86 = .ok (.iconst 1, 1) := by decide +kernel
theorem dX9_paneTold_87 : decode cX9_paneTold 87 = .ok (.goto 4, 3) := by decide +kernel
theorem dX9_paneTold_90 : decode cX9_paneTold 90 = .ok (.iconst 0, 1) := by decide +kernel
theorem dX9_paneTold_91 : decode cX9_paneTold 91 = .ok (.ireturn, 1) := by decide +kernel
theorem dX9_paneTold_92 : decode cX9_paneTold 92 = .ok (.aload_n 0, 1) := by decide +kernel
theorem dX9_paneTold_93 : decode cX9_paneTold 93 = .ok (.iload_n 1, 1) := by decide +kernel
theorem dX9_paneTold_94 : decode cX9_paneTold 94 = .ok (.invokevirtual 88, 3) := by decide +kernel
theorem dX9_paneTold_97 : decode cX9_paneTold 97 = .ok (.ireturn, 1) := by decide +kernel
theorem dX9_paneTold_98 : decode cX9_paneTold 98 = .ok (.aload_n 0, 1) := by decide +kernel
theorem dX9_paneTold_99 : decode cX9_paneTold 99 = .ok (.iload_n 3, 1) := by decide +kernel
theorem dX9_paneTold_100 : decode cX9_paneTold 100 = .ok (.invokevirtual 135, 3) := by decide +kernel
theorem dX9_paneTold_103 : decode cX9_paneTold 103 = .ok (.ireturn, 1) := by decide +kernel
theorem dX9_paneTold_104 : decode cX9_paneTold 104 = .ok (.aload_n 0, 1) := by decide +kernel
theorem dX9_paneTold_105 : decode cX9_paneTold 105 = .ok (.iload_n 3, 1) := by decide +kernel
theorem dX9_paneTold_106 : decode cX9_paneTold 106 = .ok (.iconst 1, 1) := by decide +kernel
theorem dX9_paneTold_107 : decode cX9_paneTold 107 = .ok (.invokevirtual 77, 3) := by decide +kernel
theorem dX9_paneTold_110 : decode cX9_paneTold 110 = .ok (.iconst (-1), 1) := by decide +kernel
theorem dX9_paneTold_111 : decode cX9_paneTold 111 = .ok (.if_icmp .ne 7, 3) := by decide +kernel
theorem dX9_paneTold_114 : decode cX9_paneTold 114 = .ok (.iconst (-1), 1) := by decide +kernel
theorem dX9_paneTold_115 : decode cX9_paneTold 115 = .ok (.goto 9, 3) := by decide +kernel
theorem dX9_paneTold_118 : decode cX9_paneTold 118 = .ok (.aload_n 0, 1) := by decide +kernel
theorem dX9_paneTold_119 : decode cX9_paneTold 119 = .ok (.iload_n 3, 1) := by decide +kernel
theorem dX9_paneTold_120 : decode cX9_paneTold 120 = .ok (.iconst 3, 1) := by decide +kernel
theorem dX9_paneTold_121 : decode cX9_paneTold 121 = .ok (.invokevirtual 77, 3) := by decide +kernel
theorem dX9_paneTold_124 : decode cX9_paneTold 124 = .ok (.ireturn, 1) := by decide +kernel
theorem dX9_paneTold_125 : decode cX9_paneTold 125 = .ok (.aload_n 0, 1) := by decide +kernel
theorem dX9_paneTold_126 : decode cX9_paneTold 126 = .ok (.iload_n 3, 1) := by decide +kernel
theorem dX9_paneTold_127 : decode cX9_paneTold 127 = .ok (.invokevirtual 237, 3) := by decide +kernel
theorem dX9_paneTold_130 : decode cX9_paneTold 130 = .ok (.ireturn, 1) := by decide +kernel
theorem dX9_paneTold_131 : decode cX9_paneTold 131 = .ok (.aload_n 0, 1) := by decide +kernel
theorem dX9_paneTold_132 : decode cX9_paneTold 132 = .ok (.iload_n 3, 1) := by decide +kernel
theorem dX9_paneTold_133 : decode cX9_paneTold 133 = .ok (.iload_n 2, 1) := by decide +kernel
theorem dX9_paneTold_134 : decode cX9_paneTold 134 = .ok (.invokevirtual 240, 3) := by decide +kernel
theorem dX9_paneTold_137 : decode cX9_paneTold 137 = .ok (.ireturn, 1) := by decide +kernel
theorem hin_X9_paneTold_X9 : ∀ w ∈ wsX90, w ∈ wsX9_paneTold := by decide +kernel
theorem lk_X9_paneTold_7 : Cond.fieldLink RX9 7 RX9 "s" "[I" ∈ wsX9_paneTold := by decide +kernel
theorem m_paneTold (hG : GP G) (hM : MoS S r) (hR : R32Z Z) {N : Int} (hB : TB N T) (hN : N ≤ 1073740000) (hP : 0 ≤ mu (r + 1) 2 ∧ mu (r + 1) 2 ≤ 16) {q x w : Int} (hx : 0 ≤ x ∧ x < 16) (hw : 0 ≤ w ∧ w ≤ 11) (he : T 9 x ≠ -1 → abE T 40 (T 1 (T 9 x))) : Ct G l yX9_paneTold wsX9_paneTold 2 0 0 [.ref r, .int (I32 x), .int (I32 w)] S n (lyM mu r T q Z) la (Dt (some (.int (I32 (pvF mu r T Z x w)))) S n (lyM mu r T q Z) la) := by
  have o9 := hM.1
  have b9 := hB.g hx
  have hPz : 0 ≤ zM mu r q Z (r + 1) 2 ∧ zM mu r q Z (r + 1) 2 ≤ 16 := by rw [zM_b]; exact hP
  unfold pvF
  refine Ct.ofV (cc := cX9_paneTold) (nL := 4) (ret := (some .int)) [some (.ref r), some (.int (I32 x)), some (.int (I32 w)), none] hG (by decide) rfl (Nat.le_of_ble_eq_true rfl) rfl ?_
  rintro X rfl rfl C hcl hsl E
  by_cases h2 : w < 2
  · rw [if_pos h2] at E
    refine V_iload_n C dX9_paneTold_0 rfl ?_
    refine V_iconst C dX9_paneTold_1 ?_
    refine V_icmp_ge C 18 dX9_paneTold_2 (by decide) (by omega) (by omega) (fun z2 => ?_) (fun z2 => ?_)
    · exact absurd z2 (by first | omega | decide)
    · refine V_aload_n C dX9_paneTold_5 rfl ?_
      refine V_getR C 0 dX9_paneTold_6 o9 rfl hin_X9_paneTold_X9 (by decide) lk_X9_paneTold_7 rfl rfl ?_
      refine V_iconst C dX9_paneTold_9 ?_
      refine V_iconst C dX9_paneTold_10 ?_
      refine V_iload_n C dX9_paneTold_11 rfl ?_
      refine V_imul C dX9_paneTold_12 ?_
      refine V_iadd C dX9_paneTold_13 ?_
      refine V_iload_n C dX9_paneTold_14 rfl ?_
      refine V_iadd C dX9_paneTold_15 ?_
      refine V_ialdJ C dX9_paneTold_16 hM.2.1 (by first | assumption | decide) (by omega) (zM_1 (by omega)) ?_
      refine V_ireturn C E dX9_paneTold_17 (by omega) (by omega) ?_
      exact Dt_rfl
  · rw [if_neg h2] at E
    refine V_iload_n C dX9_paneTold_0 rfl ?_
    refine V_iconst C dX9_paneTold_1 ?_
    refine V_icmp_ge C 18 dX9_paneTold_2 (by decide) (by omega) (by omega) (fun z0 => ?_) (fun z0 => ?_)
    · refine V_aload_n C dX9_paneTold_18 rfl ?_
      refine V_iload_n C dX9_paneTold_19 rfl ?_
      refine V_callVD (nA := 1) C dX9_paneTold_20 (m_groupOf C.gp hM hx) gX9_paneTold_X9_groupOf rfl o9 rfl (by decide +kernel) rfl (by decide) (by decide) (Nat.le_of_ble_eq_true rfl) ⟨by omega, by omega⟩ rfl ?_
      refine V_istore_n C dX9_paneTold_23 rfl (by decide) ?_
      refine V_iload_n C dX9_paneTold_24 rfl ?_
      refine V_iconst C dX9_paneTold_25 ?_
      refine V_icmp_ne C 35 dX9_paneTold_26 (by decide) (by omega) (by omega) (fun z1 => ?_) (fun z1 => ?_)
      · rw [if_neg z1] at E
        refine V_iload_n C dX9_paneTold_35 rfl ?_
        refine V_iconst C dX9_paneTold_36 ?_
        refine V_icmp_ne C 42 dX9_paneTold_37 (by decide) (by omega) (by omega) (fun z2 => ?_) (fun z2 => ?_)
        · rw [if_neg z2] at E
          have he := he z2
          have b4 := hB.n 4 (by decide) (i := T 9 x) (by omega)
          have b1 := hB.p (i := T 9 x) (by omega)
          have hw9 : w = 3 ∨ w = 4 ∨ w = 5 ∨ w = 6 ∨ w = 7 ∨ w = 8 ∨ w = 9 ∨ w = 10 ∨ w = 11 := by omega
          have h9 := m_tabs (l := xL X) (n := n) (la := la) (mu := zM mu r q Z) (T := T) C.gp hM hB (by omega) hPz (x := T 9 x) (by omega)
          rw [zM_b] at h9
          rcases hw9 with rfl | rfl | rfl | rfl | rfl | rfl | rfl | rfl | rfl
          · refine V_iload_n C dX9_paneTold_42 rfl ?_
            refine V_tableOut C 131 dX9_paneTold_43 (by omega) (by omega) (by decide) ?_
            refine V_aload_n C dX9_paneTold_131 rfl ?_
            refine V_iload_n C dX9_paneTold_132 rfl ?_
            refine V_iload_n C dX9_paneTold_133 rfl ?_
            refine V_callVD (nA := 2) C dX9_paneTold_134 (m_boxOf C.gp hM hR (by omega) (by omega)) gX9_paneTold_X9_boxOf rfl o9 rfl (by decide +kernel) rfl (by decide) (by decide) (Nat.le_of_ble_eq_true rfl) ⟨by omega, by omega⟩ rfl ?_
            refine V_ireturn C E dX9_paneTold_137 (by omega) (by omega) ?_
            exact Dt_int (by (repeat' split) <;> first | rfl | omega)
          · refine V_iload_n C dX9_paneTold_42 rfl ?_
            refine V_tableOut C 131 dX9_paneTold_43 (by omega) (by omega) (by decide) ?_
            refine V_aload_n C dX9_paneTold_131 rfl ?_
            refine V_iload_n C dX9_paneTold_132 rfl ?_
            refine V_iload_n C dX9_paneTold_133 rfl ?_
            refine V_callVD (nA := 2) C dX9_paneTold_134 (m_boxOf C.gp hM hR (by omega) (by omega)) gX9_paneTold_X9_boxOf rfl o9 rfl (by decide +kernel) rfl (by decide) (by decide) (Nat.le_of_ble_eq_true rfl) ⟨by omega, by omega⟩ rfl ?_
            refine V_ireturn C E dX9_paneTold_137 (by omega) (by omega) ?_
            exact Dt_int (by (repeat' split) <;> first | rfl | omega)
          · refine V_iload_n C dX9_paneTold_42 rfl ?_
            refine V_tableOut C 131 dX9_paneTold_43 (by omega) (by omega) (by decide) ?_
            refine V_aload_n C dX9_paneTold_131 rfl ?_
            refine V_iload_n C dX9_paneTold_132 rfl ?_
            refine V_iload_n C dX9_paneTold_133 rfl ?_
            refine V_callVD (nA := 2) C dX9_paneTold_134 (m_boxOf C.gp hM hR (by omega) (by omega)) gX9_paneTold_X9_boxOf rfl o9 rfl (by decide +kernel) rfl (by decide) (by decide) (Nat.le_of_ble_eq_true rfl) ⟨by omega, by omega⟩ rfl ?_
            refine V_ireturn C E dX9_paneTold_137 (by omega) (by omega) ?_
            exact Dt_int (by (repeat' split) <;> first | rfl | omega)
          · refine V_iload_n C dX9_paneTold_42 rfl ?_
            refine V_tableOut C 131 dX9_paneTold_43 (by omega) (by omega) (by decide) ?_
            refine V_aload_n C dX9_paneTold_131 rfl ?_
            refine V_iload_n C dX9_paneTold_132 rfl ?_
            refine V_iload_n C dX9_paneTold_133 rfl ?_
            refine V_callVD (nA := 2) C dX9_paneTold_134 (m_boxOf C.gp hM hR (by omega) (by omega)) gX9_paneTold_X9_boxOf rfl o9 rfl (by decide +kernel) rfl (by decide) (by decide) (Nat.le_of_ble_eq_true rfl) ⟨by omega, by omega⟩ rfl ?_
            refine V_ireturn C E dX9_paneTold_137 (by omega) (by omega) ?_
            exact Dt_int (by (repeat' split) <;> first | rfl | omega)
          · refine V_iload_n C dX9_paneTold_42 rfl ?_
            refine V_tableIn C 76 dX9_paneTold_43 (by omega) (by omega) (by omega) rfl (by decide) ?_
            refine V_aload_n C dX9_paneTold_76 rfl ?_
            refine V_iload_n C dX9_paneTold_77 rfl ?_
            refine V_iconst C dX9_paneTold_78 ?_
            refine V_callVD (nA := 2) C dX9_paneTold_79 (m_of C.gp hM (by omega) 4 (by decide) rfl) gX9_paneTold_X9_of rfl o9 rfl (by decide +kernel) rfl (by decide) (by decide) (Nat.le_of_ble_eq_true rfl) ⟨by omega, by omega⟩ rfl ?_
            refine V_iload_n C dX9_paneTold_82 rfl ?_
            refine V_icmp_ne C 90 dX9_paneTold_83 (by decide) (by omega) (by omega) (fun z83 => ?_) (fun z83 => ?_)
            · refine V_iconst C dX9_paneTold_90 ?_
              refine V_ireturn C E dX9_paneTold_91 (by omega) (by omega) ?_
              exact Dt_int (by (repeat' split) <;> first | rfl | omega)
            · refine V_iconst C dX9_paneTold_86 ?_
              refine V_goto C 91 dX9_paneTold_87 (by decide) ?_
              refine V_ireturn C E dX9_paneTold_91 (by omega) (by omega) ?_
              exact Dt_int (by (repeat' split) <;> first | rfl | omega)
          · refine V_iload_n C dX9_paneTold_42 rfl ?_
            refine V_tableIn C 92 dX9_paneTold_43 (by omega) (by omega) (by omega) rfl (by decide) ?_
            refine V_aload_n C dX9_paneTold_92 rfl ?_
            refine V_iload_n C dX9_paneTold_93 rfl ?_
            refine V_callVD (nA := 1) C dX9_paneTold_94 (m_placeOf C.gp hM hx) gX9_paneTold_X9_placeOf rfl o9 rfl (by decide +kernel) rfl (by decide) (by decide) (Nat.le_of_ble_eq_true rfl) ⟨by omega, by omega⟩ rfl ?_
            refine V_ireturn C E dX9_paneTold_97 (by omega) (by omega) ?_
            exact Dt_int (by (repeat' split) <;> first | rfl | omega)
          · refine V_iload_n C dX9_paneTold_42 rfl ?_
            refine V_tableIn C 98 dX9_paneTold_43 (by omega) (by omega) (by omega) rfl (by decide) ?_
            refine V_aload_n C dX9_paneTold_98 rfl ?_
            refine V_iload_n C dX9_paneTold_99 rfl ?_
            refine V_callVD (nA := 1) C dX9_paneTold_100 h9 gX9_paneTold_X9_tabs rfl o9 rfl (by decide +kernel) rfl (by decide) (by decide) (Nat.le_of_ble_eq_true rfl) ⟨by omega, by omega⟩ rfl ?_
            refine V_ireturn C E dX9_paneTold_103 (by omega) (by omega) ?_
            exact Dt_int (by (repeat' split) <;> first | rfl | omega)
          · refine V_iload_n C dX9_paneTold_42 rfl ?_
            refine V_tableIn C 104 dX9_paneTold_43 (by omega) (by omega) (by omega) rfl (by decide) ?_
            refine V_aload_n C dX9_paneTold_104 rfl ?_
            refine V_iload_n C dX9_paneTold_105 rfl ?_
            refine V_iconst C dX9_paneTold_106 ?_
            refine V_callVD (nA := 2) C dX9_paneTold_107 (m_of C.gp hM (by omega) 1 (by decide) rfl) gX9_paneTold_X9_of rfl o9 rfl (by decide +kernel) rfl (by decide) (by decide) (Nat.le_of_ble_eq_true rfl) ⟨by omega, by omega⟩ rfl ?_
            refine V_iconst C dX9_paneTold_110 ?_
            refine V_icmp_ne C 118 dX9_paneTold_111 (by decide) (by omega) (by omega) (fun z111 => ?_) (fun z111 => ?_)
            · refine V_aload_n C dX9_paneTold_118 rfl ?_
              refine V_iload_n C dX9_paneTold_119 rfl ?_
              refine V_iconst C dX9_paneTold_120 ?_
              refine V_callVD (nA := 2) C dX9_paneTold_121 (m_of C.gp hM (by omega) 3 (by decide) rfl) gX9_paneTold_X9_of rfl o9 rfl (by decide +kernel) rfl (by decide) (by decide) (Nat.le_of_ble_eq_true rfl) ⟨by omega, by omega⟩ rfl ?_
              refine V_ireturn C E dX9_paneTold_124 (by omega) (by omega) ?_
              exact Dt_int (by (repeat' split) <;> first | rfl | omega)
            · refine V_iconst C dX9_paneTold_114 ?_
              refine V_goto C 124 dX9_paneTold_115 (by decide) ?_
              refine V_ireturn C E dX9_paneTold_124 (by omega) (by omega) ?_
              exact Dt_int (by (repeat' split) <;> first | rfl | omega)
          · refine V_iload_n C dX9_paneTold_42 rfl ?_
            refine V_tableIn C 125 dX9_paneTold_43 (by omega) (by omega) (by omega) rfl (by decide) ?_
            refine V_aload_n C dX9_paneTold_125 rfl ?_
            refine V_iload_n C dX9_paneTold_126 rfl ?_
            refine V_callVD (nA := 1) C dX9_paneTold_127 (m_above C.gp hM hB (by omega) (by omega) he) gX9_paneTold_X9_above rfl o9 rfl (by decide +kernel) rfl (by decide) (by decide) (Nat.le_of_ble_eq_true rfl) ⟨by omega, by omega⟩ rfl ?_
            refine V_ireturn C E dX9_paneTold_130 (by omega) (by omega) ?_
            exact Dt_int (by (repeat' split) <;> first | rfl | omega)
        · rw [if_pos z2] at E
          refine V_iconst C dX9_paneTold_40 ?_
          refine V_ireturn C E dX9_paneTold_41 (by omega) (by omega) ?_
          exact Dt_rfl
      · rw [if_pos z1] at E
        refine V_aload_n C dX9_paneTold_29 rfl ?_
        refine V_iload_n C dX9_paneTold_30 rfl ?_
        refine V_callVD (nA := 1) C dX9_paneTold_31 (m_stateOf C.gp hM hB (by omega) hx) gX9_paneTold_X9_stateOf rfl o9 rfl (by decide +kernel) rfl (by decide) (by decide) (Nat.le_of_ble_eq_true rfl) ⟨by omega, by omega⟩ rfl ?_
        refine V_ireturn C E dX9_paneTold_34 (by omega) (by omega) ?_
        exact Dt_rfl
    · exact absurd z0 (by omega)
set_option maxRecDepth 20000 in
theorem ggX9_splitAt_X9_stateOf : GoodIn wsX9_splitAt wsX9_stateOf := goodIn_r _ [5, 6, 7, 8, 4, 9, 10, 11, 12, 13, 14, 15, 16, 17, 18, 19, 20, 21, 22, 23, 24, 25, 26, 27, 28, 29, 30, 31, 32, 33, 34, 35, 36, 37, 38] (by decide +kernel) (by decide +kernel)
set_option maxRecDepth 20000 in
theorem gX9_splitAt_X9_stateOf : GoodIn wsX9_splitAt (wsV RX9 159 RX9 yX9_stateOf wsX9_stateOf) := goodIn_app (goodIn_of _ (by decide +kernel)) ggX9_splitAt_X9_stateOf
set_option maxRecDepth 20000 in
theorem ggX9_splitAt_X9_groupOf : GoodIn wsX9_splitAt wsX9_groupOf := goodIn_r _ [9, 10, 15, 16, 17, 18, 19, 20, 21, 22, 23, 24, 25, 26, 27, 28, 29, 30, 31, 32, 33, 34, 35, 36, 37, 38] (by decide +kernel) (by decide +kernel)
set_option maxRecDepth 20000 in
theorem gX9_splitAt_X9_groupOf : GoodIn wsX9_splitAt (wsV RX9 85 RX9 yX9_groupOf wsX9_groupOf) := goodIn_app (goodIn_of _ (by decide +kernel)) ggX9_splitAt_X9_groupOf
set_option maxRecDepth 20000 in
theorem ggX9_splitAt_X9_of : GoodIn wsX9_splitAt wsX9_of := goodIn_r _ [14, 10, 15, 16, 17, 18, 19, 20, 21, 22, 23, 24, 25, 26, 27, 28, 29, 30, 31, 32, 33, 34, 35, 36, 37, 38] (by decide +kernel) (by decide +kernel)
set_option maxRecDepth 20000 in
theorem gX9_splitAt_X9_of : GoodIn wsX9_splitAt (wsV RX9 77 RX9 yX9_of wsX9_of) := goodIn_app (goodIn_of _ (by decide +kernel)) ggX9_splitAt_X9_of
theorem dX9_splitAt_0 : decode cX9_splitAt 0 = .ok (.aload_n 0, 1) := by decide +kernel
theorem dX9_splitAt_1 : decode cX9_splitAt 1 = .ok (.iload_n 1, 1) := by decide +kernel
theorem dX9_splitAt_2 : decode cX9_splitAt 2 = .ok (.invokevirtual 159, 3) := by decide +kernel
theorem dX9_splitAt_5 : decode cX9_splitAt 5 = .ok (.iconst 1, 1) := by decide +kernel
theorem dX9_splitAt_6 : decode cX9_splitAt 6 = .ok (.if_icmp .eq 5, 3) := by decide +kernel
theorem dX9_splitAt_9 : decode cX9_splitAt 9 = .ok (.iconst (-1), 1) := by decide +kernel
theorem dX9_splitAt_10 : decode cX9_splitAt 10 = .ok (.ireturn, 1) := by decide +kernel
theorem dX9_splitAt_11 : decode cX9_splitAt 11 = .ok (.aload_n 0, 1) := by decide +kernel
theorem dX9_splitAt_12 : decode cX9_splitAt 12 = .ok (.iload_n 1, 1) := by decide +kernel
theorem dX9_splitAt_13 : decode cX9_splitAt 13 = .ok (.invokevirtual 85, 3) := by decide +kernel
theorem dX9_splitAt_16 : decode cX9_splitAt 16 = .ok (.istore 4, 2) := by decide +kernel
theorem dX9_splitAt_18 : decode cX9_splitAt 18 = .ok (.iconst 0, 1) := by decide +kernel
theorem dX9_splitAt_19 : decode cX9_splitAt 19 = .ok (.istore 5, 2) := by decide +kernel
theorem dX9_splitAt_21 : decode cX9_splitAt 21 = .ok (.iload 5, 2) := by decide +kernel
theorem dX9_splitAt_23 : decode cX9_splitAt 23 = .ok (.iload_n 2, 1) := by decide +kernel
theorem dX9_splitAt_24 : decode cX9_splitAt 24 = .ok (.if_icmp .ge 24, 3) := by decide +kernel
theorem dX9_splitAt_27 : decode cX9_splitAt 27 = .ok (.iload 4, 2) := by decide +kernel
theorem dX9_splitAt_29 : decode cX9_splitAt 29 = .ok (.iconst (-1), 1) := by decide +kernel
theorem dX9_splitAt_30 : decode cX9_splitAt 30 = .ok (.if_icmp .eq 18, 3) := by decide +kernel
theorem dX9_splitAt_33 : decode cX9_splitAt 33 = .ok (.aload_n 0, 1) := by decide +kernel
theorem dX9_splitAt_34 : decode cX9_splitAt 34 = .ok (.iload 4, 2) := by decide +kernel
theorem dX9_splitAt_36 : decode cX9_splitAt 36 = .ok (.iconst 1, 1) := by decide +kernel
theorem dX9_splitAt_37 : decode cX9_splitAt 37 = .ok (.invokevirtual 77, 3) := by decide +kernel
theorem dX9_splitAt_40 : decode cX9_splitAt 40 = .ok (.istore 4, 2) := by decide +kernel
theorem dX9_splitAt_42 : decode cX9_splitAt 42 = .ok (.iinc 5 1, 3) := by decide +kernel
theorem dX9_splitAt_45 : decode cX9_splitAt 45 = .ok (.goto (-24), 3) := by decide +kernel
theorem dX9_splitAt_48 : decode cX9_splitAt 48 = .ok (.iload_n 3, 1) := by decide +kernel
theorem dX9_splitAt_49 : decode cX9_splitAt 49 = .ok (.ifCond .ne 9, 3) := by decide +kernel
theorem dX9_splitAt_52 : decode cX9_splitAt 52 = .ok (.iload 4, 2) := by decide +kernel
theorem dX9_splitAt_54 : decode cX9_splitAt 54 = .ok (.iconst (-1), 1) := by decide +kernel
theorem dX9_splitAt_55 : decode cX9_splitAt 55 = .ok (.if_icmp .ne 8, 3) := by decide +kernel
theorem dX9_splitAt_58 : decode cX9_splitAt 58 = .ok (.iload 4, 2) := by decide +kernel
theorem dX9_splitAt_60 : decode cX9_splitAt 60 = .ok (.goto 10, 3) := by decide +kernel
theorem dX9_splitAt_63 : decode cX9_splitAt 63 = .ok (.aload_n 0, 1) := by decide +kernel
theorem dX9_splitAt_64 : decode cX9_splitAt 64 = .ok (.iload 4, 2) := by decide +kernel
theorem dX9_splitAt_66 : decode cX9_splitAt 66 = .ok (.iconst 1, 1) := by decide +kernel
theorem dX9_splitAt_67 : decode cX9_splitAt 67 = .ok (.invokevirtual 77, 3) := by decide +kernel
theorem dX9_splitAt_70 : decode cX9_splitAt 70 = .ok (.ireturn, 1) := by decide +kernel
theorem m_splitAt (hG : GP G) (hM : MoS S r) {N : Int} (hB : TB N T) (hN : N ≤ 1073740000) {x v f : Int} (hx : 0 ≤ x ∧ x < 16) (hv : 0 ≤ v ∧ v ≤ 2147483647) (hf : 0 ≤ f ∧ f ≤ 1) : Ct G l yX9_splitAt wsX9_splitAt 2 0 0 [.ref r, .int (I32 x), .int (I32 v), .int (I32 f)] S n (ptT mu r T) la (Dt (some (.int (I32 (saF T x v f)))) S n (ptT mu r T) la) := by
  have o9 := hM.1
  have b9 := hB.g hx
  have bs := sxT_b T x
  unfold saF
  generalize eR : upT T v.toNat (T 9 x) = R
  refine Ct.ofV (cc := cX9_splitAt) (nL := 6) (ret := (some .int)) [some (.ref r), some (.int (I32 x)), some (.int (I32 v)), some (.int (I32 f)), none, none] hG (by decide) rfl (Nat.le_of_ble_eq_true rfl) rfl ?_
  rintro X rfl rfl C hcl hsl E
  refine V_aload_n C dX9_splitAt_0 rfl ?_
  refine V_iload_n C dX9_splitAt_1 rfl ?_
  refine V_callVD (nA := 1) C dX9_splitAt_2 (m_stateOf C.gp hM hB (by omega) hx) gX9_splitAt_X9_stateOf rfl o9 rfl (by decide +kernel) rfl (by decide) (by decide) (Nat.le_of_ble_eq_true rfl) ⟨by omega, by omega⟩ rfl ?_
  refine V_iconst C dX9_splitAt_5 ?_
  refine V_icmp_eq C 11 dX9_splitAt_6 (by decide) (by omega) (by omega) (fun z0 => ?_) (fun z0 => ?_)
  · rw [if_pos z0] at E
    have last : ∀ (k : Int), (-1 ≤ R ∧ R < 32) → V X 48 [some (.ref r), some (.int (I32 x)), some (.int (I32 v)), some (.int (I32 f)), some (.int (I32 R)), some (.int (I32 k))] [] S n (ptT mu r T) la 0 0 := by
      intro k hRb
      refine V_iload_n C dX9_splitAt_48 rfl ?_
      refine V_if_ne C 58 dX9_splitAt_49 (by decide) (by omega) (fun z49 => ?_) (fun z49 => ?_)
      · refine V_iload C dX9_splitAt_58 rfl ?_
        refine V_goto C 70 dX9_splitAt_60 (by decide) ?_
        refine V_ireturn C E dX9_splitAt_70 (by omega) (by omega) ?_
        first | (rw [if_pos (by omega)] ; exact Dt_rfl) | (rw [if_neg (by omega)] ; exact Dt_rfl)
      · refine V_iload C dX9_splitAt_52 rfl ?_
        refine V_iconst C dX9_splitAt_54 ?_
        refine V_icmp_ne C 63 dX9_splitAt_55 (by decide) (by omega) (by omega) (fun z55 => ?_) (fun z55 => ?_)
        · refine V_aload_n C dX9_splitAt_63 rfl ?_
          refine V_iload C dX9_splitAt_64 rfl ?_
          refine V_iconst C dX9_splitAt_66 ?_
          refine V_callVD (nA := 2) C dX9_splitAt_67 (m_of C.gp hM (by omega) 1 (by decide) rfl) gX9_splitAt_X9_of rfl o9 rfl (by decide +kernel) rfl (by decide) (by decide) (Nat.le_of_ble_eq_true rfl) ⟨by omega, by omega⟩ rfl ?_
          refine V_ireturn C E dX9_splitAt_70 (by omega) (by omega) ?_
          first | (rw [if_pos (by omega)] ; exact Dt_rfl) | (rw [if_neg (by omega)] ; exact Dt_rfl)
        · refine V_iload C dX9_splitAt_58 rfl ?_
          refine V_goto C 70 dX9_splitAt_60 (by decide) ?_
          refine V_ireturn C E dX9_splitAt_70 (by omega) (by omega) ?_
          first | (rw [if_pos (by omega)] ; exact Dt_rfl) | (rw [if_neg (by omega)] ; exact Dt_rfl)
    have loop : ∀ (d : Nat) (k y : Int), k + d = v → 0 ≤ k → (-1 ≤ y ∧ y < 32) → upT T d y = R → V X 21 [some (.ref r), some (.int (I32 x)), some (.int (I32 v)), some (.int (I32 f)), some (.int (I32 y)), some (.int (I32 k))] [] S n (ptT mu r T) la 0 0 := by
      intro d
      induction d with
      | zero =>
        intro k y h1 h2 h3 h4
        have h4 : y = R := h4
        rw [h4] at h3 ⊢
        refine V_iload C dX9_splitAt_21 rfl ?_
        refine V_iload_n C dX9_splitAt_23 rfl ?_
        refine V_icmp_ge C 48 dX9_splitAt_24 (by decide) (by omega) (by omega) (fun z => ?_) (fun z => ?_)
        · exact last k h3
        · exact absurd z (by omega)
      | succ d ih =>
        intro k y h1 h2 h3 h4
        rw [upT] at h4
        refine V_iload C dX9_splitAt_21 rfl ?_
        refine V_iload_n C dX9_splitAt_23 rfl ?_
        refine V_icmp_ge C 48 dX9_splitAt_24 (by decide) (by omega) (by omega) (fun z => ?_) (fun z => ?_)
        · exact absurd z (by omega)
        · refine V_iload C dX9_splitAt_27 rfl ?_
          refine V_iconst C dX9_splitAt_29 ?_
          refine V_icmp_eq C 48 dX9_splitAt_30 (by decide) (by omega) (by omega) (fun z2 => ?_) (fun z2 => ?_)
          · rw [if_pos z2] at h4
            rw [h4] at h3 ⊢
            exact last k h3
          · rw [if_neg z2] at h4
            have b1 := hB.p (i := y) (by omega)
            refine V_aload_n C dX9_splitAt_33 rfl ?_
            refine V_iload C dX9_splitAt_34 rfl ?_
            refine V_iconst C dX9_splitAt_36 ?_
            refine V_callVD (nA := 2) C dX9_splitAt_37 (m_of C.gp hM (by omega) 1 (by decide) rfl) gX9_splitAt_X9_of rfl o9 rfl (by decide +kernel) rfl (by decide) (by decide) (Nat.le_of_ble_eq_true rfl) ⟨by omega, by omega⟩ rfl ?_
            refine V_istore C dX9_splitAt_40 rfl (by decide) ?_
            refine V_iinc C dX9_splitAt_42 rfl rfl (by decide) ?_
            refine V_goto C 21 dX9_splitAt_45 (by decide) ?_
            exact ih (k + 1) (T 1 y) (by omega) (by omega) (by omega) h4
    refine V_aload_n C dX9_splitAt_11 rfl ?_
    refine V_iload_n C dX9_splitAt_12 rfl ?_
    refine V_callVD (nA := 1) C dX9_splitAt_13 (m_groupOf C.gp hM hx) gX9_splitAt_X9_groupOf rfl o9 rfl (by decide +kernel) rfl (by decide) (by decide) (Nat.le_of_ble_eq_true rfl) ⟨by omega, by omega⟩ rfl ?_
    refine V_istore C dX9_splitAt_16 rfl (by decide) ?_
    refine V_iconst C dX9_splitAt_18 ?_
    refine V_istore C dX9_splitAt_19 rfl (by decide) ?_
    exact loop v.toNat 0 (T 9 x) (by omega) (by omega) (by omega) eR
  · rw [if_neg z0] at E
    refine V_iconst C dX9_splitAt_9 ?_
    refine V_ireturn C E dX9_splitAt_10 (by omega) (by omega) ?_
    exact Dt_rfl
set_option maxRecDepth 20000 in
theorem ggX9_splitTold_X9_splitAt : GoodIn wsX9_splitTold wsX9_splitAt := goodIn_r _ [10, 11, 12, 13, 9, 14, 15, 16, 17, 18, 19, 20, 21, 22, 23, 31, 32, 33, 34, 35, 36, 37, 38, 39, 40, 41, 42, 43, 44, 45, 46, 47, 48, 49, 50, 51, 52, 53, 54] (by decide +kernel) (by decide +kernel)
set_option maxRecDepth 20000 in
theorem gX9_splitTold_X9_splitAt : GoodIn wsX9_splitTold (wsV RX9 246 RX9 yX9_splitAt wsX9_splitAt) := goodIn_app (goodIn_of _ (by decide +kernel)) ggX9_splitTold_X9_splitAt
set_option maxRecDepth 20000 in
theorem ggX9_splitTold_X9_of : GoodIn wsX9_splitTold wsX9_of := goodIn_r _ [23, 19, 31, 32, 33, 34, 35, 36, 37, 38, 39, 40, 41, 42, 43, 44, 45, 46, 47, 48, 49, 50, 51, 52, 53, 54] (by decide +kernel) (by decide +kernel)
set_option maxRecDepth 20000 in
theorem gX9_splitTold_X9_of : GoodIn wsX9_splitTold (wsV RX9 77 RX9 yX9_of wsX9_of) := goodIn_app (goodIn_of _ (by decide +kernel)) ggX9_splitTold_X9_of
set_option maxRecDepth 20000 in
theorem ggX9_splitTold_X9_children : GoodIn wsX9_splitTold wsX9_children := goodIn_r _ [27, 20, 21, 22, 9, 23, 19, 28, 29, 30, 31, 32, 33, 34, 35, 36, 37, 38, 39, 40, 41, 42, 43, 44, 45, 46, 47, 48, 49, 50, 51, 52, 53, 54] (by decide +kernel) (by decide +kernel)
set_option maxRecDepth 20000 in
theorem gX9_splitTold_X9_children : GoodIn wsX9_splitTold (wsV RX9 102 RX9 yX9_children wsX9_children) := goodIn_app (goodIn_of _ (by decide +kernel)) ggX9_splitTold_X9_children
theorem dX9_splitTold_0 : decode cX9_splitTold 0 = .ok (.aload_n 0, 1) := by decide +kernel
theorem dX9_splitTold_1 : decode cX9_splitTold 1 = .ok (.iload_n 1, 1) := by decide +kernel
theorem dX9_splitTold_2 : decode cX9_splitTold 2 = .ok (.iload_n 2, 1) := by decide +kernel
theorem dX9_splitTold_3 : decode cX9_splitTold 3 = .ok (.iconst 0, 1) := by decide +kernel
theorem dX9_splitTold_4 : decode cX9_splitTold 4 = .ok (.invokevirtual 246, 3) := by decide +kernel
theorem dX9_splitTold_7 : decode cX9_splitTold 7 = .ok (.istore 4, 2) := by decide +kernel
theorem dX9_splitTold_9 : decode cX9_splitTold 9 = .ok (.iload 4, 2) := by decide +kernel
theorem dX9_splitTold_11 : decode cX9_splitTold 11 = .ok (.iconst (-1), 1) := by decide +kernel
theorem dX9_splitTold_12 : decode cX9_splitTold 12 = .ok (.if_icmp .ne 5, 3) := by decide +kernel
theorem dX9_splitTold_15 : decode cX9_splitTold 15 = .ok (.iconst (-1), 1) := by decide +kernel
theorem dX9_splitTold_16 : decode cX9_splitTold 16 = .ok (.ireturn, 1) := by decide +kernel
theorem dX9_splitTold_17 : decode cX9_splitTold 17 = .ok (.iload_n 3, 1) := by decide +kernel
theorem dX9_splitTold_18 : decode cX9_splitTold 18 = .ok (.tableswitch 111 0 6 #[42, 59, 66, 79, 87, 95, 103], 42) := by decide +kernel
theorem dX9_splitTold_60 : decode cX9_splitTold 60 = .ok (.aload_n 0, 1) := by decide +kernel
theorem dX9_splitTold_61 : decode cX9_splitTold 61 = .ok (.iload 4, 2) := by decide +kernel
theorem dX9_splitTold_63 : decode cX9_splitTold 63 = .ok (.iconst 0, 1) := by decide +kernel
theorem dX9_splitTold_64 : decode cX9_splitTold 64 = .ok (.invokevirtual 77, 3) := by decide +kernel
theorem dX9_splitTold_67 : decode cX9_splitTold 67 = .ok (.iconst 3, 1) := by decide +kernel
theorem dX9_splitTold_68 : decode cX9_splitTold 68 = .ok (.if_icmp .ne 7, 3) := by decide +kernel
theorem dX9_splitTold_71 : decode cX9_splitTold 71 = .ok (.iconst 1, 1) := by decide +kernel
theorem dX9_splitTold_72 : decode cX9_splitTold 72 = .ok (.goto 4, 3) := by decide +kernel
theorem dX9_splitTold_75 : decode cX9_splitTold 75 = .ok (.iconst 0, 1) := by decide +kernel
theorem dX9_splitTold_76 : decode cX9_splitTold 76 = .ok (.ireturn, 1) := by decide +kernel
theorem dX9_splitTold_77 : decode cX9_splitTold 77 = .ok (.aload_n 0, 1) := by decide +kernel
theorem dX9_splitTold_78 : decode cX9_splitTold 78 = .ok (.iload 4, 2) := by decide +kernel
theorem dX9_splitTold_80 : decode cX9_splitTold 80 = .ok (.invokevirtual 102, 3) := by decide +kernel
theorem dX9_splitTold_83 : decode cX9_splitTold 83 = .ok (.ireturn, 1) := by decide +kernel
theorem dX9_splitTold_84 : decode cX9_splitTold 84 = .ok (.aload_n 0, 1) := by decide +kernel
theorem dX9_splitTold_85 : decode cX9_splitTold 85 = .ok (.aload_n 0, 1) := by decide +kernel
theorem dX9_splitTold_86 : decode cX9_splitTold 86 = .ok (.iload_n 1, 1) := by decide +kernel
theorem dX9_splitTold_87 : decode cX9_splitTold 87 = .ok (.iload_n 2, 1) := by decide +kernel
theorem dX9_splitTold_88 : decode cX9_splitTold 88 = .ok (.iconst 1, 1) := by decide +kernel
theorem dX9_splitTold_89 : decode cX9_splitTold 89 = .ok (.invokevirtual 246, 3) := by decide +kernel
theorem dX9_splitTold_92 : decode cX9_splitTold 92 = .ok (.iconst 2, 1) := by decide +kernel
theorem dX9_splitTold_93 : decode cX9_splitTold 93 = .ok (.invokevirtual 77, 3) := by decide +kernel
theorem dX9_splitTold_96 : decode cX9_splitTold 96 = .ok (.ireturn, 1) := by decide +kernel
theorem dX9_splitTold_97 : decode cX9_splitTold 97 = .ok (.aload_n 0, 1) := by decide +kernel
theorem dX9_splitTold_98 : decode cX9_splitTold 98 = .ok (.getfield 28, 3) := by decide +kernel
theorem dX9_splitTold_101 : decode cX9_splitTold 101 = .ok (.iload 4, 2) := by decide +kernel
theorem dX9_splitTold_103 : decode cX9_splitTold 103 = .ok (.iaload, 1) := by decide +kernel
theorem dX9_splitTold_104 : decode cX9_splitTold 104 = .ok (.ireturn, 1) := by decide +kernel
theorem dX9_splitTold_105 : decode cX9_splitTold 105 = .ok (.aload_n 0, 1) := by decide +kernel
theorem dX9_splitTold_106 : decode cX9_splitTold 106 = .ok (.getfield 31, 3) := by decide +kernel
theorem dX9_splitTold_109 : decode cX9_splitTold 109 = .ok (.iload 4, 2) := by decide +kernel
theorem dX9_splitTold_111 : decode cX9_splitTold 111 = .ok (.iaload, 1) := by decide +kernel
theorem dX9_splitTold_112 : decode cX9_splitTold 112 = .ok (.ireturn, 1) := by decide +kernel
theorem dX9_splitTold_113 : decode cX9_splitTold 113 = .ok (.aload_n 0, 1) := by decide +kernel
theorem dX9_splitTold_114 : decode cX9_splitTold 114 = .ok (.getfield 40, 3) := by decide +kernel
theorem dX9_splitTold_117 : decode cX9_splitTold 117 = .ok (.iload 4, 2) := by decide +kernel
theorem dX9_splitTold_119 : decode cX9_splitTold 119 = .ok (.iaload, 1) := by decide +kernel
theorem dX9_splitTold_120 : decode cX9_splitTold 120 = .ok (.ireturn, 1) := by decide +kernel
theorem dX9_splitTold_121 : decode cX9_splitTold 121 = .ok (.aload_n 0, 1) := by decide +kernel
theorem dX9_splitTold_122 : decode cX9_splitTold 122 = .ok (.getfield 43, 3) := by decide +kernel
theorem dX9_splitTold_125 : decode cX9_splitTold 125 = .ok (.iload 4, 2) := by decide +kernel
theorem dX9_splitTold_127 : decode cX9_splitTold 127 = .ok (.iaload, 1) := by decide +kernel
theorem dX9_splitTold_128 : decode cX9_splitTold 128 = .ok (.ireturn, 1) := by decide +kernel
theorem dX9_splitTold_129 : decode cX9_splitTold 129 = .ok (.aload_n 0, 1) := by decide +kernel
theorem dX9_splitTold_130 : decode cX9_splitTold 130 = .ok (.getfield 46, 3) := by decide +kernel
theorem dX9_splitTold_133 : decode cX9_splitTold 133 = .ok (.iload 4, 2) := by decide +kernel
theorem dX9_splitTold_135 : decode cX9_splitTold 135 = .ok (.iaload, 1) := by decide +kernel
theorem dX9_splitTold_136 : decode cX9_splitTold 136 = .ok (.ireturn, 1) := by decide +kernel
theorem hin_X9_splitTold_X9 : ∀ w ∈ wsX90, w ∈ wsX9_splitTold := by decide +kernel
theorem lk_X9_splitTold_28 : Cond.fieldLink RX9 28 RX9 "leastW" "[I" ∈ wsX9_splitTold := by decide +kernel
theorem lk_X9_splitTold_31 : Cond.fieldLink RX9 31 RX9 "leastH" "[I" ∈ wsX9_splitTold := by decide +kernel
theorem lk_X9_splitTold_40 : Cond.fieldLink RX9 40 RX9 "boxW" "[I" ∈ wsX9_splitTold := by decide +kernel
theorem lk_X9_splitTold_43 : Cond.fieldLink RX9 43 RX9 "boxH" "[I" ∈ wsX9_splitTold := by decide +kernel
theorem lk_X9_splitTold_46 : Cond.fieldLink RX9 46 RX9 "tight" "[I" ∈ wsX9_splitTold := by decide +kernel
theorem m_splitTold (hG : GP G) (hM : MoS S r) {N : Int} (hB : TB N T) (hN : N ≤ 1073740000) {q x v w : Int} (hx : 0 ≤ x ∧ x < 16) (hv : 0 ≤ v ∧ v ≤ 2147483647) (hw : 0 ≤ w ∧ w ≤ 7) : Ct G l yX9_splitTold wsX9_splitTold 3 0 0 [.ref r, .int (I32 x), .int (I32 v), .int (I32 w)] S n (lyM mu r T q Z) la (Dt (some (.int (I32 (stF T Z x v w)))) S n (lyM mu r T q Z) la) := by
  have o9 := hM.1
  have b9 := hB.g hx
  have bu := upT_b hB v.toNat (T 9 x) (by omega)
  have bs0 : (-1 ≤ saF T x v 0 ∧ saF T x v 0 < 32) ∧ (saF T x v 0 ≠ -1 → 0 ≤ saF T x v 1 ∧ saF T x v 1 < 32) := by
    unfold saF
    split
    · rw [if_pos (show (1 : Int) = 1 ∨ _ from Or.inl rfl)]
      split
      · omega
      · have b1 := hB.p (i := upT T v.toNat (T 9 x)) (by omega)
        omega
    · omega
  unfold stF
  refine Ct.ofV (cc := cX9_splitTold) (nL := 5) (ret := (some .int)) [some (.ref r), some (.int (I32 x)), some (.int (I32 v)), some (.int (I32 w)), none] hG (by decide) rfl (Nat.le_of_ble_eq_true rfl) rfl ?_
  rintro X rfl rfl C hcl hsl E
  refine V_aload_n C dX9_splitTold_0 rfl ?_
  refine V_iload_n C dX9_splitTold_1 rfl ?_
  refine V_iload_n C dX9_splitTold_2 rfl ?_
  refine V_iconst C dX9_splitTold_3 ?_
  refine V_callVD (nA := 3) C dX9_splitTold_4 (m_splitAt C.gp hM hB (by omega) hx hv (by omega)) gX9_splitTold_X9_splitAt rfl o9 rfl (by decide +kernel) rfl (by decide) (by decide) (Nat.le_of_ble_eq_true rfl) ⟨by omega, by omega⟩ rfl ?_
  refine V_istore C dX9_splitTold_7 rfl (by decide) ?_
  refine V_iload C dX9_splitTold_9 rfl ?_
  refine V_iconst C dX9_splitTold_11 ?_
  refine V_icmp_ne C 17 dX9_splitTold_12 (by decide) (by omega) (by omega) (fun z0 => ?_) (fun z0 => ?_)
  · rw [if_neg z0] at E
    obtain ⟨bs1, bs2⟩ := bs0
    have bs2 := bs2 z0
    have b0 := hB.n 0 (by decide) (i := saF T x v 0) (by omega)
    have hw9 : w = 0 ∨ w = 1 ∨ w = 2 ∨ w = 3 ∨ w = 4 ∨ w = 5 ∨ w = 6 ∨ w = 7 := by omega
    rcases hw9 with rfl | rfl | rfl | rfl | rfl | rfl | rfl | rfl
    · refine V_iload_n C dX9_splitTold_17 rfl ?_
      refine V_tableIn C 60 dX9_splitTold_18 (by omega) (by omega) (by omega) rfl (by decide) ?_
      refine V_aload_n C dX9_splitTold_60 rfl ?_
      refine V_iload C dX9_splitTold_61 rfl ?_
      refine V_iconst C dX9_splitTold_63 ?_
      refine V_callVD (nA := 2) C dX9_splitTold_64 (m_of C.gp hM (by omega) 0 (by decide) rfl) gX9_splitTold_X9_of rfl o9 rfl (by decide +kernel) rfl (by decide) (by decide) (Nat.le_of_ble_eq_true rfl) ⟨by omega, by omega⟩ rfl ?_
      refine V_iconst C dX9_splitTold_67 ?_
      refine V_icmp_ne C 75 dX9_splitTold_68 (by decide) (by omega) (by omega) (fun z68 => ?_) (fun z68 => ?_)
      · refine V_iconst C dX9_splitTold_75 ?_
        refine V_ireturn C E dX9_splitTold_76 (by omega) (by omega) ?_
        exact Dt_int (by (repeat' split) <;> first | rfl | omega)
      · refine V_iconst C dX9_splitTold_71 ?_
        refine V_goto C 76 dX9_splitTold_72 (by decide) ?_
        refine V_ireturn C E dX9_splitTold_76 (by omega) (by omega) ?_
        exact Dt_int (by (repeat' split) <;> first | rfl | omega)
    · refine V_iload_n C dX9_splitTold_17 rfl ?_
      refine V_tableIn C 77 dX9_splitTold_18 (by omega) (by omega) (by omega) rfl (by decide) ?_
      refine V_aload_n C dX9_splitTold_77 rfl ?_
      refine V_iload C dX9_splitTold_78 rfl ?_
      refine V_callVD (nA := 1) C dX9_splitTold_80 (m_children C.gp hM hB (by omega) (by omega)) gX9_splitTold_X9_children rfl o9 rfl (by decide +kernel) rfl (by decide) (by decide) (Nat.le_of_ble_eq_true rfl) ⟨by omega, by omega⟩ rfl ?_
      refine V_ireturn C E dX9_splitTold_83 (by omega) (by omega) ?_
      exact Dt_int (by (repeat' split) <;> first | rfl | omega)
    · refine V_iload_n C dX9_splitTold_17 rfl ?_
      refine V_tableIn C 84 dX9_splitTold_18 (by omega) (by omega) (by omega) rfl (by decide) ?_
      refine V_aload_n C dX9_splitTold_84 rfl ?_
      refine V_aload_n C dX9_splitTold_85 rfl ?_
      refine V_iload_n C dX9_splitTold_86 rfl ?_
      refine V_iload_n C dX9_splitTold_87 rfl ?_
      refine V_iconst C dX9_splitTold_88 ?_
      refine V_callVD (nA := 3) C dX9_splitTold_89 (m_splitAt C.gp hM hB (by omega) hx hv (by omega)) gX9_splitTold_X9_splitAt rfl o9 rfl (by decide +kernel) rfl (by decide) (by decide) (Nat.le_of_ble_eq_true rfl) ⟨by omega, by omega⟩ rfl ?_
      refine V_iconst C dX9_splitTold_92 ?_
      refine V_callVD (nA := 2) C dX9_splitTold_93 (m_of C.gp hM (by omega) 2 (by decide) rfl) gX9_splitTold_X9_of rfl o9 rfl (by decide +kernel) rfl (by decide) (by decide) (Nat.le_of_ble_eq_true rfl) ⟨by omega, by omega⟩ rfl ?_
      refine V_ireturn C E dX9_splitTold_96 (by omega) (by omega) ?_
      exact Dt_int (by (repeat' split) <;> first | rfl | omega)
    · refine V_iload_n C dX9_splitTold_17 rfl ?_
      refine V_tableIn C 97 dX9_splitTold_18 (by omega) (by omega) (by omega) rfl (by decide) ?_
      refine V_aload_n C dX9_splitTold_97 rfl ?_
      refine V_getR C 10 dX9_splitTold_98 o9 rfl hin_X9_splitTold_X9 (by decide) lk_X9_splitTold_28 rfl rfl ?_
      refine V_iload C dX9_splitTold_101 rfl ?_
      refine V_ialdJ C dX9_splitTold_103 (hM.k ⟨by decide,by decide⟩) (by first | assumption | decide) (by omega) (zM_k (by decide)) ?_
      refine V_ireturn C E dX9_splitTold_104 (by omega) (by omega) ?_
      exact Dt_int (by (repeat' split) <;> first | rfl | omega)
    · refine V_iload_n C dX9_splitTold_17 rfl ?_
      refine V_tableIn C 105 dX9_splitTold_18 (by omega) (by omega) (by omega) rfl (by decide) ?_
      refine V_aload_n C dX9_splitTold_105 rfl ?_
      refine V_getR C 11 dX9_splitTold_106 o9 rfl hin_X9_splitTold_X9 (by decide) lk_X9_splitTold_31 rfl rfl ?_
      refine V_iload C dX9_splitTold_109 rfl ?_
      refine V_ialdJ C dX9_splitTold_111 (hM.k ⟨by decide,by decide⟩) (by first | assumption | decide) (by omega) (zM_k (by decide)) ?_
      refine V_ireturn C E dX9_splitTold_112 (by omega) (by omega) ?_
      exact Dt_int (by (repeat' split) <;> first | rfl | omega)
    · refine V_iload_n C dX9_splitTold_17 rfl ?_
      refine V_tableIn C 113 dX9_splitTold_18 (by omega) (by omega) (by omega) rfl (by decide) ?_
      refine V_aload_n C dX9_splitTold_113 rfl ?_
      refine V_getR C 14 dX9_splitTold_114 o9 rfl hin_X9_splitTold_X9 (by decide) lk_X9_splitTold_40 rfl rfl ?_
      refine V_iload C dX9_splitTold_117 rfl ?_
      refine V_ialdJ C dX9_splitTold_119 (hM.k ⟨by decide,by decide⟩) (by first | assumption | decide) (by omega) (zM_k (by decide)) ?_
      refine V_ireturn C E dX9_splitTold_120 (by omega) (by omega) ?_
      exact Dt_int (by (repeat' split) <;> first | rfl | omega)
    · refine V_iload_n C dX9_splitTold_17 rfl ?_
      refine V_tableIn C 121 dX9_splitTold_18 (by omega) (by omega) (by omega) rfl (by decide) ?_
      refine V_aload_n C dX9_splitTold_121 rfl ?_
      refine V_getR C 15 dX9_splitTold_122 o9 rfl hin_X9_splitTold_X9 (by decide) lk_X9_splitTold_43 rfl rfl ?_
      refine V_iload C dX9_splitTold_125 rfl ?_
      refine V_ialdJ C dX9_splitTold_127 (hM.k ⟨by decide,by decide⟩) (by first | assumption | decide) (by omega) (zM_k (by decide)) ?_
      refine V_ireturn C E dX9_splitTold_128 (by omega) (by omega) ?_
      exact Dt_int (by (repeat' split) <;> first | rfl | omega)
    · refine V_iload_n C dX9_splitTold_17 rfl ?_
      refine V_tableOut C 129 dX9_splitTold_18 (by omega) (by omega) (by decide) ?_
      refine V_aload_n C dX9_splitTold_129 rfl ?_
      refine V_getR C 16 dX9_splitTold_130 o9 rfl hin_X9_splitTold_X9 (by decide) lk_X9_splitTold_46 rfl rfl ?_
      refine V_iload C dX9_splitTold_133 rfl ?_
      refine V_ialdJ C dX9_splitTold_135 (hM.k ⟨by decide,by decide⟩) (by first | assumption | decide) (by omega) (zM_k (by decide)) ?_
      refine V_ireturn C E dX9_splitTold_136 (by omega) (by omega) ?_
      exact Dt_int (by (repeat' split) <;> first | rfl | omega)
  · rw [if_pos z0] at E
    refine V_iconst C dX9_splitTold_15 ?_
    refine V_ireturn C E dX9_splitTold_16 (by omega) (by omega) ?_
    exact Dt_rfl
set_option maxRecDepth 20000 in
theorem ggX9_tabTold_X9_groupOf : GoodIn wsX9_tabTold wsX9_groupOf := goodIn_r _ [5, 6, 15, 16, 17, 18, 19, 20, 21, 22, 23, 24, 25, 26, 27, 28, 29, 30, 31, 32, 33, 34, 35, 36, 37, 38] (by decide +kernel) (by decide +kernel)
set_option maxRecDepth 20000 in
theorem gX9_tabTold_X9_groupOf : GoodIn wsX9_tabTold (wsV RX9 85 RX9 yX9_groupOf wsX9_groupOf) := goodIn_app (goodIn_of _ (by decide +kernel)) ggX9_tabTold_X9_groupOf
set_option maxRecDepth 20000 in
theorem ggX9_tabTold_X9_tabOf : GoodIn wsX9_tabTold wsX9_tabOf := goodIn_r _ [10, 6, 1, 2, 3, 4, 5, 11, 12, 13, 14, 15, 16, 17, 18, 19, 20, 21, 22, 23, 24, 25, 26, 27, 28, 29, 30, 31, 32, 33, 34, 35, 36, 37, 38] (by decide +kernel) (by decide +kernel)
set_option maxRecDepth 20000 in
theorem gX9_tabTold_X9_tabOf : GoodIn wsX9_tabTold (wsV RX9 141 RX9 yX9_tabOf wsX9_tabOf) := goodIn_app (goodIn_of _ (by decide +kernel)) ggX9_tabTold_X9_tabOf
theorem dX9_tabTold_0 : decode cX9_tabTold 0 = .ok (.aload_n 0, 1) := by decide +kernel
theorem dX9_tabTold_1 : decode cX9_tabTold 1 = .ok (.iload_n 1, 1) := by decide +kernel
theorem dX9_tabTold_2 : decode cX9_tabTold 2 = .ok (.invokevirtual 85, 3) := by decide +kernel
theorem dX9_tabTold_5 : decode cX9_tabTold 5 = .ok (.iconst (-1), 1) := by decide +kernel
theorem dX9_tabTold_6 : decode cX9_tabTold 6 = .ok (.if_icmp .ne 7, 3) := by decide +kernel
theorem dX9_tabTold_9 : decode cX9_tabTold 9 = .ok (.iconst (-1), 1) := by decide +kernel
theorem dX9_tabTold_10 : decode cX9_tabTold 10 = .ok (.goto 13, 3) := by decide +kernel
theorem dX9_tabTold_13 : decode cX9_tabTold 13 = .ok (.aload_n 0, 1) := by decide +kernel
theorem dX9_tabTold_14 : decode cX9_tabTold 14 = .ok (.aload_n 0, 1) := by decide +kernel
theorem dX9_tabTold_15 : decode cX9_tabTold 15 = .ok (.iload_n 1, 1) := by decide +kernel
theorem dX9_tabTold_16 : decode cX9_tabTold 16 = .ok (.invokevirtual 85, 3) := by decide +kernel
theorem dX9_tabTold_19 : decode cX9_tabTold 19 = .ok (.iload_n 2, 1) := by decide +kernel
theorem dX9_tabTold_20 : decode cX9_tabTold 20 = .ok (.invokevirtual 141, 3) := by decide +kernel
theorem dX9_tabTold_23 : decode cX9_tabTold 23 = .ok (.ireturn, 1) := by decide +kernel
theorem m_tabTold (hG : GP G) (hM : MoS S r) {N : Int} (hB : TB N T) (hN : N ≤ 1073740000) (hP : 0 ≤ mu (r + 1) 2 ∧ mu (r + 1) 2 ≤ 16) {x i : Int} (hx : 0 ≤ x ∧ x < 16) (hi : -2147483648 ≤ i ∧ i ≤ 2147483647) : Ct G l yX9_tabTold wsX9_tabTold 2 0 0 [.ref r, .int (I32 x), .int (I32 i)] S n (ptT mu r T) la (Dt (some (.int (I32 (ttF T (mu (r + 1) 2) x i)))) S n (ptT mu r T) la) := by
  have o9 := hM.1
  have b9 := hB.g hx
  unfold ttF
  refine Ct.ofV (cc := cX9_tabTold) (nL := 3) (ret := (some .int)) [some (.ref r), some (.int (I32 x)), some (.int (I32 i))] hG (by decide) rfl (Nat.le_of_ble_eq_true rfl) rfl ?_
  rintro X rfl rfl C hcl hsl E
  refine V_aload_n C dX9_tabTold_0 rfl ?_
  refine V_iload_n C dX9_tabTold_1 rfl ?_
  refine V_callVD (nA := 1) C dX9_tabTold_2 (m_groupOf C.gp hM hx) gX9_tabTold_X9_groupOf rfl o9 rfl (by decide +kernel) rfl (by decide) (by decide) (Nat.le_of_ble_eq_true rfl) ⟨by omega, by omega⟩ rfl ?_
  refine V_iconst C dX9_tabTold_5 ?_
  refine V_icmp_ne C 13 dX9_tabTold_6 (by decide) (by omega) (by omega) (fun z6 => ?_) (fun z6 => ?_)
  · refine V_aload_n C dX9_tabTold_13 rfl ?_
    refine V_aload_n C dX9_tabTold_14 rfl ?_
    refine V_iload_n C dX9_tabTold_15 rfl ?_
    refine V_callVD (nA := 1) C dX9_tabTold_16 (m_groupOf C.gp hM hx) gX9_tabTold_X9_groupOf rfl o9 rfl (by decide +kernel) rfl (by decide) (by decide) (Nat.le_of_ble_eq_true rfl) ⟨by omega, by omega⟩ rfl ?_
    refine V_iload_n C dX9_tabTold_19 rfl ?_
    refine V_callVD (nA := 2) C dX9_tabTold_20 (m_tabOf C.gp hM hB (by omega) hP (by omega) hi) gX9_tabTold_X9_tabOf rfl o9 rfl (by decide +kernel) rfl (by decide) (by decide) (Nat.le_of_ble_eq_true rfl) ⟨by omega, by omega⟩ rfl ?_
    refine V_ireturn C E dX9_tabTold_23 (by omega) (by omega) ?_
    exact Dt_int (by (repeat' split) <;> first | rfl | omega)
  · refine V_iconst C dX9_tabTold_9 ?_
    refine V_goto C 23 dX9_tabTold_10 (by decide) ?_
    refine V_ireturn C E dX9_tabTold_23 (by omega) (by omega) ?_
    exact Dt_int (by (repeat' split) <;> first | rfl | omega)
set_option maxRecDepth 20000 in
theorem ggX9_firstGroup_X9_isSplit : GoodIn wsX9_firstGroup wsX9_isSplit := goodIn_r _ [5, 6, 7, 8, 4, 9, 10, 18, 19, 20, 21, 22, 23, 24, 25, 26, 27, 28, 29, 30, 31, 32, 33, 34, 35, 36, 37, 38, 39, 40, 41] (by decide +kernel) (by decide +kernel)
set_option maxRecDepth 20000 in
theorem gX9_firstGroup_X9_isSplit : GoodIn wsX9_firstGroup (wsV RX9 98 RX9 yX9_isSplit wsX9_isSplit) := goodIn_app (goodIn_of _ (by decide +kernel)) ggX9_firstGroup_X9_isSplit
set_option maxRecDepth 20000 in
theorem ggX9_firstGroup_X9_child : GoodIn wsX9_firstGroup wsX9_child := goodIn_r _ [14, 6, 7, 8, 4, 9, 10, 15, 16, 17, 18, 19, 20, 21, 22, 23, 24, 25, 26, 27, 28, 29, 30, 31, 32, 33, 34, 35, 36, 37, 38, 39, 40, 41] (by decide +kernel) (by decide +kernel)
set_option maxRecDepth 20000 in
theorem gX9_firstGroup_X9_child : GoodIn wsX9_firstGroup (wsV RX9 105 RX9 yX9_child wsX9_child) := goodIn_app (goodIn_of _ (by decide +kernel)) ggX9_firstGroup_X9_child
theorem dX9_firstGroup_0 : decode cX9_firstGroup 0 = .ok (.iload_n 1, 1) := by decide +kernel
theorem dX9_firstGroup_1 : decode cX9_firstGroup 1 = .ok (.istore_n 2, 1) := by decide +kernel
theorem dX9_firstGroup_2 : decode cX9_firstGroup 2 = .ok (.iload_n 2, 1) := by decide +kernel
theorem dX9_firstGroup_3 : decode cX9_firstGroup 3 = .ok (.iconst (-1), 1) := by decide +kernel
theorem dX9_firstGroup_4 : decode cX9_firstGroup 4 = .ok (.if_icmp .eq 21, 3) := by decide +kernel
theorem dX9_firstGroup_7 : decode cX9_firstGroup 7 = .ok (.aload_n 0, 1) := by decide +kernel
theorem dX9_firstGroup_8 : decode cX9_firstGroup 8 = .ok (.iload_n 2, 1) := by decide +kernel
theorem dX9_firstGroup_9 : decode cX9_firstGroup 9 = .ok (.invokevirtual 98, 3) := by decide +kernel
theorem dX9_firstGroup_12 : decode cX9_firstGroup 12 = .ok (.ifCond .eq 13, 3) := by decide +kernel
theorem dX9_firstGroup_15 : decode cX9_firstGroup 15 = .ok (.aload_n 0, 1) := by decide +kernel
theorem dX9_firstGroup_16 : decode cX9_firstGroup 16 = .ok (.iload_n 2, 1) := by decide +kernel
theorem dX9_firstGroup_17 : decode cX9_firstGroup 17 = .ok (.iconst 0, 1) := by decide +kernel
theorem dX9_firstGroup_18 : decode cX9_firstGroup 18 = .ok (.invokevirtual 105, 3) := by decide +kernel
theorem dX9_firstGroup_21 : decode cX9_firstGroup 21 = .ok (.istore_n 2, 1) := by decide +kernel
theorem dX9_firstGroup_22 : decode cX9_firstGroup 22 = .ok (.goto (-20), 3) := by decide +kernel
theorem dX9_firstGroup_25 : decode cX9_firstGroup 25 = .ok (.iload_n 2, 1) := by decide +kernel
theorem dX9_firstGroup_26 : decode cX9_firstGroup 26 = .ok (.ireturn, 1) := by decide +kernel
theorem m_firstGroup (hG : GP G) (hM : MoS S r) {N : Int} (hB : TB N T) (hN : N ≤ 1073740000) {x : Int} (hx : -1 ≤ x ∧ x < 32) (he : fgE T 40 x) : Ct G l yX9_firstGroup wsX9_firstGroup 2 0 0 [.ref r, .int (I32 x)] S n (ptT mu r T) la (Dt (some (.int (I32 (fgT T 40 x)))) S n (ptT mu r T) la) := by
  have o9 := hM.1
  generalize eR : fgT T 40 x = R
  refine Ct.ofV (cc := cX9_firstGroup) (nL := 3) (ret := (some .int)) [some (.ref r), some (.int (I32 x)), none] hG (by decide) rfl (Nat.le_of_ble_eq_true rfl) rfl ?_
  rintro X rfl rfl C hcl hsl E
  have loop : ∀ (d : Nat) (y : Int), (-1 ≤ y ∧ y < 32) → fgE T d y → fgT T d y = R → V X 2 [some (.ref r), some (.int (I32 x)), some (.int (I32 y))] [] S n (ptT mu r T) la 0 0 := by
    intro d
    induction d with
    | zero =>
      intro y h1 h2 h3
      exact h2.elim
    | succ d ih =>
      intro y h1 h2 h3
      rw [fgT] at h3
      have h2 : y ≠ -1 ∧ spT T y = 1 → fgE T d (chT T y 0) := h2
      have bs := spT_b T y
      have bc := chT_b T y 0
      refine V_iload_n C dX9_firstGroup_2 rfl ?_
      refine V_iconst C dX9_firstGroup_3 ?_
      refine V_icmp_eq C 25 dX9_firstGroup_4 (by decide) (by omega) (by omega) (fun z4 => ?_) (fun z4 => ?_)
      · refine V_iload_n C dX9_firstGroup_25 rfl ?_
        refine V_ireturn C E dX9_firstGroup_26 (by omega) (by omega) ?_
        rw [if_neg (fun q => by omega)] at h3
        rw [h3]
        exact Dt_rfl
      · refine V_aload_n C dX9_firstGroup_7 rfl ?_
        refine V_iload_n C dX9_firstGroup_8 rfl ?_
        refine V_callVD (nA := 1) C dX9_firstGroup_9 (m_isSplit C.gp hM hB (by omega) (by omega)) gX9_firstGroup_X9_isSplit rfl o9 rfl (by decide +kernel) rfl (by decide) (by decide) (Nat.le_of_ble_eq_true rfl) ⟨by omega, by omega⟩ rfl ?_
        refine V_if_eq C 25 dX9_firstGroup_12 (by decide) (by omega) (fun z12 => ?_) (fun z12 => ?_)
        · refine V_iload_n C dX9_firstGroup_25 rfl ?_
          refine V_ireturn C E dX9_firstGroup_26 (by omega) (by omega) ?_
          rw [if_neg (fun q => by omega)] at h3
          rw [h3]
          exact Dt_rfl
        · refine V_aload_n C dX9_firstGroup_15 rfl ?_
          refine V_iload_n C dX9_firstGroup_16 rfl ?_
          refine V_iconst C dX9_firstGroup_17 ?_
          refine V_callVD (nA := 2) C dX9_firstGroup_18 (m_child C.gp hM hB (by omega) (by omega) (by omega)) gX9_firstGroup_X9_child rfl o9 rfl (by decide +kernel) rfl (by decide) (by decide) (Nat.le_of_ble_eq_true rfl) ⟨by omega, by omega⟩ rfl ?_
          refine V_istore_n C dX9_firstGroup_21 rfl (by decide) ?_
          refine V_goto C 2 dX9_firstGroup_22 (by decide) ?_
          rw [if_pos ⟨by assumption, by omega⟩] at h3
          exact ih _ (by omega) (h2 ⟨by assumption, by omega⟩) h3
  refine V_iload_n C dX9_firstGroup_0 rfl ?_
  refine V_istore_n C dX9_firstGroup_1 rfl (by decide) ?_
  exact loop 40 x hx he eR
set_option maxRecDepth 20000 in
theorem ggX9_nextGroup_X9_of : GoodIn wsX9_nextGroup wsX9_of := goodIn_r _ [5, 6, 22, 23, 24, 25, 26, 27, 28, 29, 30, 31, 32, 33, 34, 35, 36, 37, 38, 39, 40, 41, 42, 43, 44, 45] (by decide +kernel) (by decide +kernel)
set_option maxRecDepth 20000 in
theorem gX9_nextGroup_X9_of : GoodIn wsX9_nextGroup (wsV RX9 77 RX9 yX9_of wsX9_of) := goodIn_app (goodIn_of _ (by decide +kernel)) ggX9_nextGroup_X9_of
set_option maxRecDepth 20000 in
theorem ggX9_nextGroup_X9_child : GoodIn wsX9_nextGroup wsX9_child := goodIn_r _ [10, 1, 2, 3, 4, 5, 6, 11, 12, 13, 22, 23, 24, 25, 26, 27, 28, 29, 30, 31, 32, 33, 34, 35, 36, 37, 38, 39, 40, 41, 42, 43, 44, 45] (by decide +kernel) (by decide +kernel)
set_option maxRecDepth 20000 in
theorem gX9_nextGroup_X9_child : GoodIn wsX9_nextGroup (wsV RX9 105 RX9 yX9_child wsX9_child) := goodIn_app (goodIn_of _ (by decide +kernel)) ggX9_nextGroup_X9_child
set_option maxRecDepth 20000 in
theorem ggX9_nextGroup_X9_firstGroup : GoodIn wsX9_nextGroup wsX9_firstGroup := goodIn_r _ [17, 18, 19, 20, 4, 21, 1, 2, 3, 5, 6, 7, 8, 9, 10, 11, 12, 13, 22, 23, 24, 25, 26, 27, 28, 29, 30, 31, 32, 33, 34, 35, 36, 37, 38, 39, 40, 41, 42, 43, 44, 45] (by decide +kernel) (by decide +kernel)
set_option maxRecDepth 20000 in
theorem gX9_nextGroup_X9_firstGroup : GoodIn wsX9_nextGroup (wsV RX9 259 RX9 yX9_firstGroup wsX9_firstGroup) := goodIn_app (goodIn_of _ (by decide +kernel)) ggX9_nextGroup_X9_firstGroup
theorem dX9_nextGroup_0 : decode cX9_nextGroup 0 = .ok (.iload_n 1, 1) := by decide +kernel
theorem dX9_nextGroup_1 : decode cX9_nextGroup 1 = .ok (.istore_n 2, 1) := by decide +kernel
theorem dX9_nextGroup_2 : decode cX9_nextGroup 2 = .ok (.aload_n 0, 1) := by decide +kernel
theorem dX9_nextGroup_3 : decode cX9_nextGroup 3 = .ok (.iload_n 2, 1) := by decide +kernel
theorem dX9_nextGroup_4 : decode cX9_nextGroup 4 = .ok (.iconst 1, 1) := by decide +kernel
theorem dX9_nextGroup_5 : decode cX9_nextGroup 5 = .ok (.invokevirtual 77, 3) := by decide +kernel
theorem dX9_nextGroup_8 : decode cX9_nextGroup 8 = .ok (.iconst (-1), 1) := by decide +kernel
theorem dX9_nextGroup_9 : decode cX9_nextGroup 9 = .ok (.if_icmp .eq 35, 3) := by decide +kernel
theorem dX9_nextGroup_12 : decode cX9_nextGroup 12 = .ok (.aload_n 0, 1) := by decide +kernel
theorem dX9_nextGroup_13 : decode cX9_nextGroup 13 = .ok (.aload_n 0, 1) := by decide +kernel
theorem dX9_nextGroup_14 : decode cX9_nextGroup 14 = .ok (.iload_n 2, 1) := by decide +kernel
theorem dX9_nextGroup_15 : decode cX9_nextGroup 15 = .ok (.iconst 1, 1) := by decide +kernel
theorem dX9_nextGroup_16 : decode cX9_nextGroup 16 = .ok (.invokevirtual 77, 3) := by decide +kernel
theorem dX9_nextGroup_19 : decode cX9_nextGroup 19 = .ok (.aload_n 0, 1) := by decide +kernel
theorem dX9_nextGroup_20 : decode cX9_nextGroup 20 = .ok (.iload_n 2, 1) := by decide +kernel
theorem dX9_nextGroup_21 : decode cX9_nextGroup 21 = .ok (.iconst 2, 1) := by decide +kernel
theorem dX9_nextGroup_22 : decode cX9_nextGroup 22 = .ok (.invokevirtual 77, 3) := by decide +kernel
theorem dX9_nextGroup_25 : decode cX9_nextGroup 25 = .ok (.iconst 1, 1) := by decide +kernel
theorem dX9_nextGroup_26 : decode cX9_nextGroup 26 = .ok (.iadd, 1) := by decide +kernel
theorem dX9_nextGroup_27 : decode cX9_nextGroup 27 = .ok (.invokevirtual 105, 3) := by decide +kernel
theorem dX9_nextGroup_30 : decode cX9_nextGroup 30 = .ok (.iconst (-1), 1) := by decide +kernel
theorem dX9_nextGroup_31 : decode cX9_nextGroup 31 = .ok (.if_icmp .ne 13, 3) := by decide +kernel
theorem dX9_nextGroup_34 : decode cX9_nextGroup 34 = .ok (.aload_n 0, 1) := by decide +kernel
theorem dX9_nextGroup_35 : decode cX9_nextGroup 35 = .ok (.iload_n 2, 1) := by decide +kernel
theorem dX9_nextGroup_36 : decode cX9_nextGroup 36 = .ok (.iconst 1, 1) := by decide +kernel
theorem dX9_nextGroup_37 : decode cX9_nextGroup 37 = .ok (.invokevirtual 77, 3) := by decide +kernel
theorem dX9_nextGroup_40 : decode cX9_nextGroup 40 = .ok (.istore_n 2, 1) := by decide +kernel
theorem dX9_nextGroup_41 : decode cX9_nextGroup 41 = .ok (.goto (-39), 3) := by decide +kernel
theorem dX9_nextGroup_44 : decode cX9_nextGroup 44 = .ok (.aload_n 0, 1) := by decide +kernel
theorem dX9_nextGroup_45 : decode cX9_nextGroup 45 = .ok (.iload_n 2, 1) := by decide +kernel
theorem dX9_nextGroup_46 : decode cX9_nextGroup 46 = .ok (.iconst 1, 1) := by decide +kernel
theorem dX9_nextGroup_47 : decode cX9_nextGroup 47 = .ok (.invokevirtual 77, 3) := by decide +kernel
theorem dX9_nextGroup_50 : decode cX9_nextGroup 50 = .ok (.iconst (-1), 1) := by decide +kernel
theorem dX9_nextGroup_51 : decode cX9_nextGroup 51 = .ok (.if_icmp .ne 7, 3) := by decide +kernel
theorem dX9_nextGroup_54 : decode cX9_nextGroup 54 = .ok (.iconst (-1), 1) := by decide +kernel
theorem dX9_nextGroup_55 : decode cX9_nextGroup 55 = .ok (.goto 25, 3) := by decide +kernel
theorem dX9_nextGroup_58 : decode cX9_nextGroup 58 = .ok (.aload_n 0, 1) := by decide +kernel
theorem dX9_nextGroup_59 : decode cX9_nextGroup 59 = .ok (.aload_n 0, 1) := by decide +kernel
theorem dX9_nextGroup_60 : decode cX9_nextGroup 60 = .ok (.aload_n 0, 1) := by decide +kernel
theorem dX9_nextGroup_61 : decode cX9_nextGroup 61 = .ok (.iload_n 2, 1) := by decide +kernel
theorem dX9_nextGroup_62 : decode cX9_nextGroup 62 = .ok (.iconst 1, 1) := by decide +kernel
theorem dX9_nextGroup_63 : decode cX9_nextGroup 63 = .ok (.invokevirtual 77, 3) := by decide +kernel
theorem dX9_nextGroup_66 : decode cX9_nextGroup 66 = .ok (.aload_n 0, 1) := by decide +kernel
theorem dX9_nextGroup_67 : decode cX9_nextGroup 67 = .ok (.iload_n 2, 1) := by decide +kernel
theorem dX9_nextGroup_68 : decode cX9_nextGroup 68 = .ok (.iconst 2, 1) := by decide +kernel
theorem dX9_nextGroup_69 : decode cX9_nextGroup 69 = .ok (.invokevirtual 77, 3) := by decide +kernel
theorem dX9_nextGroup_72 : decode cX9_nextGroup 72 = .ok (.iconst 1, 1) := by decide +kernel
theorem dX9_nextGroup_73 : decode cX9_nextGroup 73 = .ok (.iadd, 1) := by decide +kernel
theorem dX9_nextGroup_74 : decode cX9_nextGroup 74 = .ok (.invokevirtual 105, 3) := by decide +kernel
theorem dX9_nextGroup_77 : decode cX9_nextGroup 77 = .ok (.invokevirtual 259, 3) := by decide +kernel
theorem dX9_nextGroup_80 : decode cX9_nextGroup 80 = .ok (.ireturn, 1) := by decide +kernel
theorem m_nextGroup (hG : GP G) (hM : MoS S r) {N : Int} (hB : TB N T) (hN : N ≤ 1073740000) {x : Int} (hx : 0 ≤ x ∧ x < 32) (he : naE T 40 x) (hf : okG T) : Ct G l yX9_nextGroup wsX9_nextGroup 3 0 0 [.ref r, .int (I32 x)] S n (ptT mu r T) la (Dt (some (.int (I32 (nxT T x)))) S n (ptT mu r T) la) := by
  have o9 := hM.1
  unfold nxT
  generalize eR : naT T 40 x = R
  refine Ct.ofV (cc := cX9_nextGroup) (nL := 3) (ret := (some .int)) [some (.ref r), some (.int (I32 x)), none] hG (by decide) rfl (Nat.le_of_ble_eq_true rfl) rfl ?_
  rintro X rfl rfl C hcl hsl E
  have last : (0 ≤ R ∧ R < 32) → (T 1 R ≠ -1 → chT T (T 1 R) (T 2 R + 1) ≠ -1) → V X 44 [some (.ref r), some (.int (I32 x)), some (.int (I32 R))] [] S n (ptT mu r T) la 0 0 := by
    intro hRb hRc
    have b1 := hB.p hRb
    have b2 := hB.n 2 (by decide) hRb
    have bc := chT_b T (T 1 R) (T 2 R + 1)
    have hn := nd_ch T (T 1 R) (T 2 R + 1)
    refine V_aload_n C dX9_nextGroup_44 rfl ?_
    refine V_iload_n C dX9_nextGroup_45 rfl ?_
    refine V_iconst C dX9_nextGroup_46 ?_
    refine V_callVD (nA := 2) C dX9_nextGroup_47 (m_of C.gp hM hRb 1 (by decide) rfl) gX9_nextGroup_X9_of rfl o9 rfl (by decide +kernel) rfl (by decide) (by decide) (Nat.le_of_ble_eq_true rfl) ⟨by omega, by omega⟩ rfl ?_
    refine V_iconst C dX9_nextGroup_50 ?_
    refine V_icmp_ne C 58 dX9_nextGroup_51 (by decide) (by omega) (by omega) (fun z => ?_) (fun z => ?_)
    · rw [if_neg z] at E
      have hRc := hRc z
      have hf := hf (chT T (T 1 R) (T 2 R + 1)) (by omega) (by rcases hn with hn | hn; exact absurd hn hRc; exact hn.2)
      refine V_aload_n C dX9_nextGroup_58 rfl ?_
      refine V_aload_n C dX9_nextGroup_59 rfl ?_
      refine V_aload_n C dX9_nextGroup_60 rfl ?_
      refine V_iload_n C dX9_nextGroup_61 rfl ?_
      refine V_iconst C dX9_nextGroup_62 ?_
      refine V_callVD (nA := 2) C dX9_nextGroup_63 (m_of C.gp hM hRb 1 (by decide) rfl) gX9_nextGroup_X9_of rfl o9 rfl (by decide +kernel) rfl (by decide) (by decide) (Nat.le_of_ble_eq_true rfl) ⟨by omega, by omega⟩ rfl ?_
      refine V_aload_n C dX9_nextGroup_66 rfl ?_
      refine V_iload_n C dX9_nextGroup_67 rfl ?_
      refine V_iconst C dX9_nextGroup_68 ?_
      refine V_callVD (nA := 2) C dX9_nextGroup_69 (m_of C.gp hM hRb 2 (by decide) rfl) gX9_nextGroup_X9_of rfl o9 rfl (by decide +kernel) rfl (by decide) (by decide) (Nat.le_of_ble_eq_true rfl) ⟨by omega, by omega⟩ rfl ?_
      refine V_iconst C dX9_nextGroup_72 ?_
      refine V_iadd C dX9_nextGroup_73 ?_
      refine V_callVD (nA := 2) C dX9_nextGroup_74 (m_child C.gp hM hB (by omega) (by omega) (by omega)) gX9_nextGroup_X9_child rfl o9 rfl (by decide +kernel) rfl (by decide) (by decide) (Nat.le_of_ble_eq_true rfl) ⟨by omega, by omega⟩ rfl ?_
      refine V_callVD (nA := 1) C dX9_nextGroup_77 (m_firstGroup C.gp hM hB (by omega) (by omega) hf.1) gX9_nextGroup_X9_firstGroup rfl o9 rfl (by decide +kernel) rfl (by decide) (by decide) (Nat.le_of_ble_eq_true rfl) ⟨by omega, by omega⟩ rfl ?_
      refine V_ireturn C E dX9_nextGroup_80 (by omega) (by omega) ?_
      exact Dt_rfl
    · rw [if_pos z] at E
      refine V_iconst C dX9_nextGroup_54 ?_
      refine V_goto C 80 dX9_nextGroup_55 (by decide) ?_
      refine V_ireturn C E dX9_nextGroup_80 (by omega) (by omega) ?_
      exact Dt_rfl
  have loop : ∀ (d : Nat) (y : Int), (0 ≤ y ∧ y < 32) → naE T d y → naT T d y = R → V X 2 [some (.ref r), some (.int (I32 x)), some (.int (I32 y))] [] S n (ptT mu r T) la 0 0 := by
    intro d
    induction d with
    | zero =>
      intro y h1 h2 h3
      exact h2.elim
    | succ d ih =>
      intro y h1 h2 h3
      rw [naT] at h3
      have h2 : T 1 y ≠ -1 ∧ chT T (T 1 y) (T 2 y + 1) = -1 → naE T d (T 1 y) := h2
      have b1 := hB.p h1
      have b2 := hB.n 2 (by decide) h1
      have bc := chT_b T (T 1 y) (T 2 y + 1)
      refine V_aload_n C dX9_nextGroup_2 rfl ?_
      refine V_iload_n C dX9_nextGroup_3 rfl ?_
      refine V_iconst C dX9_nextGroup_4 ?_
      refine V_callVD (nA := 2) C dX9_nextGroup_5 (m_of C.gp hM h1 1 (by decide) rfl) gX9_nextGroup_X9_of rfl o9 rfl (by decide +kernel) rfl (by decide) (by decide) (Nat.le_of_ble_eq_true rfl) ⟨by omega, by omega⟩ rfl ?_
      refine V_iconst C dX9_nextGroup_8 ?_
      refine V_icmp_eq C 44 dX9_nextGroup_9 (by decide) (by omega) (by omega) (fun z9 => ?_) (fun z9 => ?_)
      · have hl : T 1 y ≠ -1 → chT T (T 1 y) (T 2 y + 1) ≠ -1 := by omega
        rw [if_neg (fun q => by omega)] at h3
        rw [h3] at h1 hl ⊢
        exact last h1 hl
      · refine V_aload_n C dX9_nextGroup_12 rfl ?_
        refine V_aload_n C dX9_nextGroup_13 rfl ?_
        refine V_iload_n C dX9_nextGroup_14 rfl ?_
        refine V_iconst C dX9_nextGroup_15 ?_
        refine V_callVD (nA := 2) C dX9_nextGroup_16 (m_of C.gp hM h1 1 (by decide) rfl) gX9_nextGroup_X9_of rfl o9 rfl (by decide +kernel) rfl (by decide) (by decide) (Nat.le_of_ble_eq_true rfl) ⟨by omega, by omega⟩ rfl ?_
        refine V_aload_n C dX9_nextGroup_19 rfl ?_
        refine V_iload_n C dX9_nextGroup_20 rfl ?_
        refine V_iconst C dX9_nextGroup_21 ?_
        refine V_callVD (nA := 2) C dX9_nextGroup_22 (m_of C.gp hM h1 2 (by decide) rfl) gX9_nextGroup_X9_of rfl o9 rfl (by decide +kernel) rfl (by decide) (by decide) (Nat.le_of_ble_eq_true rfl) ⟨by omega, by omega⟩ rfl ?_
        refine V_iconst C dX9_nextGroup_25 ?_
        refine V_iadd C dX9_nextGroup_26 ?_
        refine V_callVD (nA := 2) C dX9_nextGroup_27 (m_child C.gp hM hB (by omega) (by omega) (by omega)) gX9_nextGroup_X9_child rfl o9 rfl (by decide +kernel) rfl (by decide) (by decide) (Nat.le_of_ble_eq_true rfl) ⟨by omega, by omega⟩ rfl ?_
        refine V_iconst C dX9_nextGroup_30 ?_
        refine V_icmp_ne C 44 dX9_nextGroup_31 (by decide) (by omega) (by omega) (fun z31 => ?_) (fun z31 => ?_)
        · have hl : T 1 y ≠ -1 → chT T (T 1 y) (T 2 y + 1) ≠ -1 := by omega
          rw [if_neg (fun q => by omega)] at h3
          rw [h3] at h1 hl ⊢
          exact last h1 hl
        · refine V_aload_n C dX9_nextGroup_34 rfl ?_
          refine V_iload_n C dX9_nextGroup_35 rfl ?_
          refine V_iconst C dX9_nextGroup_36 ?_
          refine V_callVD (nA := 2) C dX9_nextGroup_37 (m_of C.gp hM h1 1 (by decide) rfl) gX9_nextGroup_X9_of rfl o9 rfl (by decide +kernel) rfl (by decide) (by decide) (Nat.le_of_ble_eq_true rfl) ⟨by omega, by omega⟩ rfl ?_
          refine V_istore_n C dX9_nextGroup_40 rfl (by decide) ?_
          refine V_goto C 2 dX9_nextGroup_41 (by decide) ?_
          rw [if_pos ⟨by assumption, by assumption⟩] at h3
          exact ih _ (by omega) (h2 ⟨by assumption, by assumption⟩) h3
  refine V_iload_n C dX9_nextGroup_0 rfl ?_
  refine V_istore_n C dX9_nextGroup_1 rfl (by decide) ?_
  exact loop 40 x hx he eR
set_option maxRecDepth 20000 in
theorem ggX9_groupTold_X9_root : GoodIn wsX9_groupTold wsX9_root := goodIn_r _ [5, 6, 7, 8, 4, 9, 10, 11, 12, 13, 30, 31, 32, 33, 34, 35, 36, 37, 38, 39, 40, 41, 42, 43, 44, 45, 46, 47, 48, 49, 50, 51, 52, 53] (by decide +kernel) (by decide +kernel)
set_option maxRecDepth 20000 in
theorem gX9_groupTold_X9_root : GoodIn wsX9_groupTold (wsV RX9 94 RX9 yX9_root wsX9_root) := goodIn_app (goodIn_of _ (by decide +kernel)) ggX9_groupTold_X9_root
set_option maxRecDepth 20000 in
theorem ggX9_groupTold_X9_firstGroup : GoodIn wsX9_groupTold wsX9_firstGroup := goodIn_r _ [17, 18, 19, 20, 4, 21, 6, 7, 8, 9, 10, 22, 23, 24, 25, 11, 12, 13, 30, 31, 32, 33, 34, 35, 36, 37, 38, 39, 40, 41, 42, 43, 44, 45, 46, 47, 48, 49, 50, 51, 52, 53] (by decide +kernel) (by decide +kernel)
set_option maxRecDepth 20000 in
theorem gX9_groupTold_X9_firstGroup : GoodIn wsX9_groupTold (wsV RX9 259 RX9 yX9_firstGroup wsX9_firstGroup) := goodIn_app (goodIn_of _ (by decide +kernel)) ggX9_groupTold_X9_firstGroup
set_option maxRecDepth 20000 in
theorem ggX9_groupTold_X9_nextGroup : GoodIn wsX9_groupTold wsX9_nextGroup := goodIn_r _ [29, 6, 7, 8, 4, 9, 10, 22, 23, 24, 25, 11, 12, 13, 14, 15, 16, 17, 18, 19, 20, 21, 30, 31, 32, 33, 34, 35, 36, 37, 38, 39, 40, 41, 42, 43, 44, 45, 46, 47, 48, 49, 50, 51, 52, 53] (by decide +kernel) (by decide +kernel)
set_option maxRecDepth 20000 in
theorem gX9_groupTold_X9_nextGroup : GoodIn wsX9_groupTold (wsV RX9 262 RX9 yX9_nextGroup wsX9_nextGroup) := goodIn_app (goodIn_of _ (by decide +kernel)) ggX9_groupTold_X9_nextGroup
set_option maxRecDepth 20000 in
theorem ggX9_groupTold_X9_of : GoodIn wsX9_groupTold wsX9_of := goodIn_r _ [9, 10, 30, 31, 32, 33, 34, 35, 36, 37, 38, 39, 40, 41, 42, 43, 44, 45, 46, 47, 48, 49, 50, 51, 52, 53] (by decide +kernel) (by decide +kernel)
set_option maxRecDepth 20000 in
theorem gX9_groupTold_X9_of : GoodIn wsX9_groupTold (wsV RX9 77 RX9 yX9_of wsX9_of) := goodIn_app (goodIn_of _ (by decide +kernel)) ggX9_groupTold_X9_of
theorem dX9_groupTold_0 : decode cX9_groupTold 0 = .ok (.aload_n 0, 1) := by decide +kernel
theorem dX9_groupTold_1 : decode cX9_groupTold 1 = .ok (.aload_n 0, 1) := by decide +kernel
theorem dX9_groupTold_2 : decode cX9_groupTold 2 = .ok (.invokevirtual 94, 3) := by decide +kernel
theorem dX9_groupTold_5 : decode cX9_groupTold 5 = .ok (.invokevirtual 259, 3) := by decide +kernel
theorem dX9_groupTold_8 : decode cX9_groupTold 8 = .ok (.istore_n 2, 1) := by decide +kernel
theorem dX9_groupTold_9 : decode cX9_groupTold 9 = .ok (.iconst 0, 1) := by decide +kernel
theorem dX9_groupTold_10 : decode cX9_groupTold 10 = .ok (.istore_n 3, 1) := by decide +kernel
theorem dX9_groupTold_11 : decode cX9_groupTold 11 = .ok (.iload_n 3, 1) := by decide +kernel
theorem dX9_groupTold_12 : decode cX9_groupTold 12 = .ok (.iload_n 1, 1) := by decide +kernel
theorem dX9_groupTold_13 : decode cX9_groupTold 13 = .ok (.if_icmp .ge 20, 3) := by decide +kernel
theorem dX9_groupTold_16 : decode cX9_groupTold 16 = .ok (.iload_n 2, 1) := by decide +kernel
theorem dX9_groupTold_17 : decode cX9_groupTold 17 = .ok (.iconst (-1), 1) := by decide +kernel
theorem dX9_groupTold_18 : decode cX9_groupTold 18 = .ok (.if_icmp .eq 15, 3) := by decide +kernel
theorem dX9_groupTold_21 : decode cX9_groupTold 21 = .ok (.aload_n 0, 1) := by decide +kernel
theorem dX9_groupTold_22 : decode cX9_groupTold 22 = .ok (.iload_n 2, 1) := by decide +kernel
theorem dX9_groupTold_23 : decode cX9_groupTold 23 = .ok (.invokevirtual 262, 3) := by decide +kernel
theorem dX9_groupTold_26 : decode cX9_groupTold 26 = .ok (.istore_n 2, 1) := by decide +kernel
theorem dX9_groupTold_27 : decode cX9_groupTold 27 = .ok (.iinc 3 1, 3) := by decide +kernel
theorem dX9_groupTold_30 : decode cX9_groupTold 30 = .ok (.goto (-19), 3) := by decide +kernel
theorem dX9_groupTold_33 : decode cX9_groupTold 33 = .ok (.iload_n 2, 1) := by decide +kernel
theorem dX9_groupTold_34 : decode cX9_groupTold 34 = .ok (.iconst (-1), 1) := by decide +kernel
theorem dX9_groupTold_35 : decode cX9_groupTold 35 = .ok (.if_icmp .ne 7, 3) := by decide +kernel
theorem dX9_groupTold_38 : decode cX9_groupTold 38 = .ok (.iconst (-1), 1) := by decide +kernel
theorem dX9_groupTold_39 : decode cX9_groupTold 39 = .ok (.goto 9, 3) := by decide +kernel
theorem dX9_groupTold_42 : decode cX9_groupTold 42 = .ok (.aload_n 0, 1) := by decide +kernel
theorem dX9_groupTold_43 : decode cX9_groupTold 43 = .ok (.iload_n 2, 1) := by decide +kernel
theorem dX9_groupTold_44 : decode cX9_groupTold 44 = .ok (.iconst 4, 1) := by decide +kernel
theorem dX9_groupTold_45 : decode cX9_groupTold 45 = .ok (.invokevirtual 77, 3) := by decide +kernel
theorem dX9_groupTold_48 : decode cX9_groupTold 48 = .ok (.ireturn, 1) := by decide +kernel
theorem m_groupTold (hG : GP G) (hM : MoS S r) {N : Int} (hB : TB N T) (hN : N ≤ 1073740000) {i : Int} (hi : 0 ≤ i ∧ i ≤ 2147483647) (hf : okG T) : Ct G l yX9_groupTold wsX9_groupTold 4 0 0 [.ref r, .int (I32 i)] S n (ptT mu r T) la (Dt (some (.int (I32 (gvT T i)))) S n (ptT mu r T) la) := by
  have o9 := hM.1
  unfold gvT
  have hrt := nd_rt T
  have br := rtT_b T
  generalize eR : gtT T i.toNat (fgT T 40 (rtT T)) = R
  refine Ct.ofV (cc := cX9_groupTold) (nL := 4) (ret := (some .int)) [some (.ref r), some (.int (I32 i)), none, none] hG (by decide) rfl (Nat.le_of_ble_eq_true rfl) rfl ?_
  rintro X rfl rfl C hcl hsl E
  have last : ∀ k : Int, nd T R → V X 33 [some (.ref r), some (.int (I32 i)), some (.int (I32 R)), some (.int (I32 k))] [] S n (ptT mu r T) la 0 0 := by
    intro k hR
    have hRb : -1 ≤ R ∧ R < 32 := by rcases hR with h | h <;> omega
    refine V_iload_n C dX9_groupTold_33 rfl ?_
    refine V_iconst C dX9_groupTold_34 ?_
    refine V_icmp_ne C 42 dX9_groupTold_35 (by decide) (by omega) (by omega) (fun z35 => ?_) (fun z35 => ?_)
    · refine V_aload_n C dX9_groupTold_42 rfl ?_
      refine V_iload_n C dX9_groupTold_43 rfl ?_
      refine V_iconst C dX9_groupTold_44 ?_
      refine V_callVD (nA := 2) C dX9_groupTold_45 (m_of C.gp hM (by omega) 4 (by decide) rfl) gX9_groupTold_X9_of rfl o9 rfl (by decide +kernel) rfl (by decide) (by decide) (Nat.le_of_ble_eq_true rfl) ⟨by omega, by omega⟩ rfl ?_
      refine V_ireturn C E dX9_groupTold_48 (by omega) (by omega) ?_
      exact Dt_int (by (repeat' split) <;> first | rfl | omega)
    · refine V_iconst C dX9_groupTold_38 ?_
      refine V_goto C 48 dX9_groupTold_39 (by decide) ?_
      refine V_ireturn C E dX9_groupTold_48 (by omega) (by omega) ?_
      exact Dt_int (by (repeat' split) <;> first | rfl | omega)
  have loop : ∀ (d : Nat) (k y : Int), k + d = i → 0 ≤ k → nd T y → gtT T d y = R → V X 11 [some (.ref r), some (.int (I32 i)), some (.int (I32 y)), some (.int (I32 k))] [] S n (ptT mu r T) la 0 0 := by
    intro d
    induction d with
    | zero =>
      intro k y h1 h2 h3 h4
      have h4 : y = R := h4
      rw [h4] at h3 ⊢
      refine V_iload_n C dX9_groupTold_11 rfl ?_
      refine V_iload_n C dX9_groupTold_12 rfl ?_
      refine V_icmp_ge C 33 dX9_groupTold_13 (by decide) (by omega) (by omega) (fun z => ?_) (fun z => ?_)
      · exact last k h3
      · exact absurd z (by omega)
    | succ d ih =>
      intro k y h1 h2 h3 h4
      have hyb : -1 ≤ y ∧ y < 32 := by rcases h3 with h | h <;> omega
      rw [gtT] at h4
      refine V_iload_n C dX9_groupTold_11 rfl ?_
      refine V_iload_n C dX9_groupTold_12 rfl ?_
      refine V_icmp_ge C 33 dX9_groupTold_13 (by decide) (by omega) (by omega) (fun z => ?_) (fun z => ?_)
      · exact absurd z (by omega)
      · refine V_iload_n C dX9_groupTold_16 rfl ?_
        refine V_iconst C dX9_groupTold_17 ?_
        refine V_icmp_eq C 33 dX9_groupTold_18 (by decide) (by omega) (by omega) (fun z2 => ?_) (fun z2 => ?_)
        · rw [if_pos z2] at h4
          rw [h4] at h3 ⊢
          exact last k h3
        · rw [if_neg z2] at h4
          have hy : (0 ≤ y ∧ y < 32) ∧ 1 ≤ T 0 y ∧ T 0 y ≤ 3 := by rcases h3 with h | h; exact absurd h z2; exact h
          refine V_aload_n C dX9_groupTold_21 rfl ?_
          refine V_iload_n C dX9_groupTold_22 rfl ?_
          refine V_callVD (nA := 1) C dX9_groupTold_23 (m_nextGroup C.gp hM hB (by omega) hy.1 (hf y hy.1 hy.2).2 hf) gX9_groupTold_X9_nextGroup rfl o9 rfl (by decide +kernel) rfl (by decide) (by decide) (Nat.le_of_ble_eq_true rfl) ⟨by omega, by omega⟩ rfl ?_
          refine V_istore_n C dX9_groupTold_26 rfl (by decide) ?_
          refine V_iinc C dX9_groupTold_27 rfl rfl (by decide) ?_
          refine V_goto C 11 dX9_groupTold_30 (by decide) ?_
          exact ih (k + 1) _ (by omega) (by omega) (nd_nx T y) h4
  have hfr : fgE T 40 (rtT T) := by
    rcases hrt with h | h
    · rw [h]; exact fun q => absurd rfl q.1
    · exact (hf _ h.1 h.2).1
  refine V_aload_n C dX9_groupTold_0 rfl ?_
  refine V_aload_n C dX9_groupTold_1 rfl ?_
  refine V_callVD (nA := 0) C dX9_groupTold_2 (m_root C.gp hM hB (by omega)) gX9_groupTold_X9_root rfl o9 rfl (by decide +kernel) rfl (by decide) (by decide) (Nat.le_of_ble_eq_true rfl) ⟨by omega, by omega⟩ rfl ?_
  refine V_callVD (nA := 1) C dX9_groupTold_5 (m_firstGroup C.gp hM hB (by omega) (by omega) hfr) gX9_groupTold_X9_firstGroup rfl o9 rfl (by decide +kernel) rfl (by decide) (by decide) (Nat.le_of_ble_eq_true rfl) ⟨by omega, by omega⟩ rfl ?_
  refine V_istore_n C dX9_groupTold_8 rfl (by decide) ?_
  refine V_iconst C dX9_groupTold_9 ?_
  refine V_istore_n C dX9_groupTold_10 rfl (by decide) ?_
  exact loop i.toNat 0 _ (by omega) (by omega) (nd_fg 40 _ hrt) eR
set_option maxRecDepth 20000 in
theorem ggX9_floatTold_X9_of : GoodIn wsX9_floatTold wsX9_of := goodIn_r _ [5, 6, 7, 8, 9, 10, 11, 12, 13, 14, 15, 16, 17, 18, 19, 20, 21, 22, 23, 24, 25, 26, 27, 28, 29, 30] (by decide +kernel) (by decide +kernel)
set_option maxRecDepth 20000 in
theorem gX9_floatTold_X9_of : GoodIn wsX9_floatTold (wsV RX9 77 RX9 yX9_of wsX9_of) := goodIn_app (goodIn_of _ (by decide +kernel)) ggX9_floatTold_X9_of
theorem dX9_floatTold_0 : decode cX9_floatTold 0 = .ok (.iconst (-1), 1) := by decide +kernel
theorem dX9_floatTold_1 : decode cX9_floatTold 1 = .ok (.istore_n 2, 1) := by decide +kernel
theorem dX9_floatTold_2 : decode cX9_floatTold 2 = .ok (.iconst 0, 1) := by decide +kernel
theorem dX9_floatTold_3 : decode cX9_floatTold 3 = .ok (.istore_n 3, 1) := by decide +kernel
theorem dX9_floatTold_4 : decode cX9_floatTold 4 = .ok (.iload_n 3, 1) := by decide +kernel
theorem dX9_floatTold_5 : decode cX9_floatTold 5 = .ok (.bipush 32, 2) := by decide +kernel
theorem dX9_floatTold_7 : decode cX9_floatTold 7 = .ok (.if_icmp .ge 40, 3) := by decide +kernel
theorem dX9_floatTold_10 : decode cX9_floatTold 10 = .ok (.aload_n 0, 1) := by decide +kernel
theorem dX9_floatTold_11 : decode cX9_floatTold 11 = .ok (.iload_n 3, 1) := by decide +kernel
theorem dX9_floatTold_12 : decode cX9_floatTold 12 = .ok (.iconst 0, 1) := by decide +kernel
theorem dX9_floatTold_13 : decode cX9_floatTold 13 = .ok (.invokevirtual 77, 3) := by decide +kernel
theorem dX9_floatTold_16 : decode cX9_floatTold 16 = .ok (.iconst 4, 1) := by decide +kernel
theorem dX9_floatTold_17 : decode cX9_floatTold 17 = .ok (.if_icmp .ne 22, 3) := by decide +kernel
theorem dX9_floatTold_20 : decode cX9_floatTold 20 = .ok (.aload_n 0, 1) := by decide +kernel
theorem dX9_floatTold_21 : decode cX9_floatTold 21 = .ok (.iload_n 3, 1) := by decide +kernel
theorem dX9_floatTold_22 : decode cX9_floatTold 22 = .ok (.iconst 2, 1) := by decide +kernel
theorem dX9_floatTold_23 : decode cX9_floatTold 23 = .ok (.invokevirtual 77, 3) := by decide +kernel
theorem dX9_floatTold_26 : decode cX9_floatTold 26 = .ok (.iload_n 1, 1) := by decide +kernel
theorem dX9_floatTold_27 : decode cX9_floatTold 27 = .ok (.if_icmp .ne 12, 3) := by decide +kernel
theorem dX9_floatTold_30 : decode cX9_floatTold 30 = .ok (.aload_n 0, 1) := by decide +kernel
theorem dX9_floatTold_31 : decode cX9_floatTold 31 = .ok (.iload_n 3, 1) := by decide +kernel
theorem dX9_floatTold_32 : decode cX9_floatTold 32 = .ok (.iconst 4, 1) := by decide +kernel
theorem dX9_floatTold_33 : decode cX9_floatTold 33 = .ok (.invokevirtual 77, 3) := by decide +kernel
theorem dX9_floatTold_36 : decode cX9_floatTold 36 = .ok (.goto 4, 3) := by decide +kernel
theorem dX9_floatTold_39 : decode cX9_floatTold 39 = .ok (.iload_n 2, 1) := by decide +kernel
theorem dX9_floatTold_40 : decode cX9_floatTold 40 = .ok (.istore_n 2, 1) := by decide +kernel
theorem dX9_floatTold_41 : decode cX9_floatTold 41 = .ok (.iinc 3 1, 3) := by decide +kernel
theorem dX9_floatTold_44 : decode cX9_floatTold 44 = .ok (.goto (-40), 3) := by decide +kernel
theorem dX9_floatTold_47 : decode cX9_floatTold 47 = .ok (.iload_n 2, 1) := by decide +kernel
theorem dX9_floatTold_48 : decode cX9_floatTold 48 = .ok (.ireturn, 1) := by decide +kernel
theorem m_floatTold (hG : GP G) (hM : MoS S r) {N : Int} (hB : TB N T) (hN : N ≤ 1073740000) {i : Int} (hi : -2147483648 ≤ i ∧ i ≤ 2147483647) : Ct G l yX9_floatTold wsX9_floatTold 1 0 0 [.ref r, .int (I32 i)] S n (ptT mu r T) la (Dt (some (.int (I32 (fvG T i 32)))) S n (ptT mu r T) la) := by
  have o9 := hM.1
  refine Ct.ofV (cc := cX9_floatTold) (nL := 4) (ret := (some .int)) [some (.ref r), some (.int (I32 i)), none, none] hG (by decide) rfl (Nat.le_of_ble_eq_true rfl) rfl ?_
  rintro X rfl rfl C hcl hsl E
  have loop : ∀ (d j : Nat), j + d = 32 → V X 4 [some (.ref r), some (.int (I32 i)), some (.int (I32 (fvG T i j))), some (.int (I32 (j : Int)))] [] S n (ptT mu r T) la 0 0 := by
    intro d
    induction d with
    | zero =>
      intro j h1
      have hj : j = 32 := by omega
      subst hj
      refine V_iload_n C dX9_floatTold_4 rfl ?_
      refine V_bipush C dX9_floatTold_5 (by decide +kernel) ?_
      refine V_icmp_ge C 47 dX9_floatTold_7 (by decide) (by omega) (by omega) (fun z7 => ?_) (fun z7 => ?_)
      · refine V_iload_n C dX9_floatTold_47 rfl ?_
        refine V_ireturn C E dX9_floatTold_48 (by omega) (by omega) ?_
        exact Dt_rfl
      · exact absurd z7 (by first | omega | decide)
    | succ d ih =>
      intro j h1
      have b0 := hB.n 0 (by decide) (i := (j : Int)) (by omega)
      have b2 := hB.n 2 (by decide) (i := (j : Int)) (by omega)
      have h9 := ih (j + 1) (by omega)
      rw [fvG] at h9
      refine V_iload_n C dX9_floatTold_4 rfl ?_
      refine V_bipush C dX9_floatTold_5 (by decide +kernel) ?_
      refine V_icmp_ge C 47 dX9_floatTold_7 (by decide) (by omega) (by omega) (fun z7 => ?_) (fun z7 => ?_)
      · exact absurd z7 (by first | omega | decide)
      · refine V_aload_n C dX9_floatTold_10 rfl ?_
        refine V_iload_n C dX9_floatTold_11 rfl ?_
        refine V_iconst C dX9_floatTold_12 ?_
        refine V_callVD (nA := 2) C dX9_floatTold_13 (m_of C.gp hM (by omega) 0 (by decide) rfl) gX9_floatTold_X9_of rfl o9 rfl (by decide +kernel) rfl (by decide) (by decide) (Nat.le_of_ble_eq_true rfl) ⟨by omega, by omega⟩ rfl ?_
        refine V_iconst C dX9_floatTold_16 ?_
        refine V_icmp_ne C 39 dX9_floatTold_17 (by decide) (by omega) (by omega) (fun z17 => ?_) (fun z17 => ?_)
        · rw [if_neg (by omega)] at h9
          refine V_iload_n C dX9_floatTold_39 rfl ?_
          refine V_istore_n C dX9_floatTold_40 rfl (by decide) ?_
          refine V_iinc C dX9_floatTold_41 rfl rfl (by decide) ?_
          refine V_goto C 4 dX9_floatTold_44 (by decide) ?_
          exact h9
        · refine V_aload_n C dX9_floatTold_20 rfl ?_
          refine V_iload_n C dX9_floatTold_21 rfl ?_
          refine V_iconst C dX9_floatTold_22 ?_
          refine V_callVD (nA := 2) C dX9_floatTold_23 (m_of C.gp hM (by omega) 2 (by decide) rfl) gX9_floatTold_X9_of rfl o9 rfl (by decide +kernel) rfl (by decide) (by decide) (Nat.le_of_ble_eq_true rfl) ⟨by omega, by omega⟩ rfl ?_
          refine V_iload_n C dX9_floatTold_26 rfl ?_
          refine V_icmp_ne C 39 dX9_floatTold_27 (by decide) (by omega) (by omega) (fun z27 => ?_) (fun z27 => ?_)
          · rw [if_neg (by omega)] at h9
            refine V_iload_n C dX9_floatTold_39 rfl ?_
            refine V_istore_n C dX9_floatTold_40 rfl (by decide) ?_
            refine V_iinc C dX9_floatTold_41 rfl rfl (by decide) ?_
            refine V_goto C 4 dX9_floatTold_44 (by decide) ?_
            exact h9
          · rw [if_pos ⟨by assumption, by assumption⟩] at h9
            refine V_aload_n C dX9_floatTold_30 rfl ?_
            refine V_iload_n C dX9_floatTold_31 rfl ?_
            refine V_iconst C dX9_floatTold_32 ?_
            refine V_callVD (nA := 2) C dX9_floatTold_33 (m_of C.gp hM (by omega) 4 (by decide) rfl) gX9_floatTold_X9_of rfl o9 rfl (by decide +kernel) rfl (by decide) (by decide) (Nat.le_of_ble_eq_true rfl) ⟨by omega, by omega⟩ rfl ?_
            refine V_goto C 40 dX9_floatTold_36 (by decide) ?_
            refine V_istore_n C dX9_floatTold_40 rfl (by decide) ?_
            refine V_iinc C dX9_floatTold_41 rfl rfl (by decide) ?_
            refine V_goto C 4 dX9_floatTold_44 (by decide) ?_
            exact h9
  refine V_iconst C dX9_floatTold_0 ?_
  refine V_istore_n C dX9_floatTold_1 rfl (by decide) ?_
  refine V_iconst C dX9_floatTold_2 ?_
  refine V_istore_n C dX9_floatTold_3 rfl (by decide) ?_
  exact loop 32 0 (by omega)
set_option maxRecDepth 20000 in
theorem ggX9_inState_X9_stateOf : GoodIn wsX9_inState wsX9_stateOf := goodIn_r _ [6, 7, 8, 9, 5, 10, 1, 11, 12, 13, 14, 15, 16, 17, 18, 19, 20, 21, 22, 23, 24, 25, 26, 27, 28, 29, 30, 31, 32, 33, 34, 35, 36, 37, 38] (by decide +kernel) (by decide +kernel)
set_option maxRecDepth 20000 in
theorem gX9_inState_X9_stateOf : GoodIn wsX9_inState (wsV RX9 159 RX9 yX9_stateOf wsX9_stateOf) := goodIn_app (goodIn_of _ (by decide +kernel)) ggX9_inState_X9_stateOf
theorem dX9_inState_0 : decode cX9_inState 0 = .ok (.iconst 0, 1) := by decide +kernel
theorem dX9_inState_1 : decode cX9_inState 1 = .ok (.istore_n 2, 1) := by decide +kernel
theorem dX9_inState_2 : decode cX9_inState 2 = .ok (.iconst 0, 1) := by decide +kernel
theorem dX9_inState_3 : decode cX9_inState 3 = .ok (.istore_n 3, 1) := by decide +kernel
theorem dX9_inState_4 : decode cX9_inState 4 = .ok (.iload_n 3, 1) := by decide +kernel
theorem dX9_inState_5 : decode cX9_inState 5 = .ok (.aload_n 0, 1) := by decide +kernel
theorem dX9_inState_6 : decode cX9_inState 6 = .ok (.getfield 7, 3) := by decide +kernel
theorem dX9_inState_9 : decode cX9_inState 9 = .ok (.iconst 2, 1) := by decide +kernel
theorem dX9_inState_10 : decode cX9_inState 10 = .ok (.iaload, 1) := by decide +kernel
theorem dX9_inState_11 : decode cX9_inState 11 = .ok (.if_icmp .ge 26, 3) := by decide +kernel
theorem dX9_inState_14 : decode cX9_inState 14 = .ok (.iload_n 2, 1) := by decide +kernel
theorem dX9_inState_15 : decode cX9_inState 15 = .ok (.aload_n 0, 1) := by decide +kernel
theorem dX9_inState_16 : decode cX9_inState 16 = .ok (.iload_n 3, 1) := by decide +kernel
theorem dX9_inState_17 : decode cX9_inState 17 = .ok (.invokevirtual 159, 3) := by decide +kernel
theorem dX9_inState_20 : decode cX9_inState 20 = .ok (.iload_n 1, 1) := by decide +kernel
theorem dX9_inState_21 : decode cX9_inState 21 = .ok (.if_icmp .ne 7, 3) := by decide +kernel
theorem dX9_inState_24 : decode cX9_inState 24 = .ok (.iconst 1, 1) := by decide +kernel
theorem dX9_inState_25 : decode cX9_inState 25 = .ok (.goto 4, 3) := by decide +kernel
theorem dX9_inState_28 : decode cX9_inState 28 = .ok (.iconst 0, 1) := by decide +kernel
theorem dX9_inState_29 : decode cX9_inState 29 = .ok (.iadd, 1) := by decide +kernel
theorem dX9_inState_30 : decode cX9_inState 30 = .ok (.istore_n 2, 1) := by decide +kernel
theorem dX9_inState_31 : decode cX9_inState 31 = .ok (.iinc 3 1, 3) := by decide +kernel
theorem dX9_inState_34 : decode cX9_inState 34 = .ok (.goto (-30), 3) := by decide +kernel
theorem dX9_inState_37 : decode cX9_inState 37 = .ok (.iload_n 2, 1) := by decide +kernel
theorem dX9_inState_38 : decode cX9_inState 38 = .ok (.ireturn, 1) := by decide +kernel
theorem hin_X9_inState_X9 : ∀ w ∈ wsX90, w ∈ wsX9_inState := by decide +kernel
theorem lk_X9_inState_7 : Cond.fieldLink RX9 7 RX9 "s" "[I" ∈ wsX9_inState := by decide +kernel
theorem m_inState (hG : GP G) (hM : MoS S r) {N : Int} (hB : TB N T) (hN : N ≤ 1073740000) (hP : 0 ≤ mu (r + 1) 2 ∧ mu (r + 1) 2 ≤ 16) {s : Int} (hs : -2147483648 ≤ s ∧ s ≤ 2147483647) : Ct G l yX9_inState wsX9_inState 2 0 0 [.ref r, .int (I32 s)] S n (ptT mu r T) la (Dt (some (.int (I32 (smG (isS T s) (mu (r + 1) 2).toNat)))) S n (ptT mu r T) la) := by
  have o9 := hM.1
  refine Ct.ofV (cc := cX9_inState) (nL := 4) (ret := (some .int)) [some (.ref r), some (.int (I32 s)), none, none] hG (by decide) rfl (Nat.le_of_ble_eq_true rfl) rfl ?_
  rintro X rfl rfl C hcl hsl E
  have loop : ∀ (d j : Nat), j + d = (mu (r + 1) 2).toNat → V X 4 [some (.ref r), some (.int (I32 s)), some (.int (I32 (smG (isS T s) j))), some (.int (I32 (j : Int)))] [] S n (ptT mu r T) la 0 0 := by
    intro d
    induction d with
    | zero =>
      intro j h1
      have hj : j = (mu (r + 1) 2).toNat := by omega
      subst hj
      refine V_iload_n C dX9_inState_4 rfl ?_
      refine V_aload_n C dX9_inState_5 rfl ?_
      refine V_getR C 0 dX9_inState_6 o9 rfl hin_X9_inState_X9 (by decide) lk_X9_inState_7 rfl rfl ?_
      refine V_iconst C dX9_inState_9 ?_
      refine V_ialdJ C dX9_inState_10 hM.2.1 (by first | assumption | decide) (by omega) (pt_lo (by decide)) ?_
      refine V_icmp_ge C 37 dX9_inState_11 (by decide) (by omega) (by omega) (fun z11 => ?_) (fun z11 => ?_)
      · refine V_iload_n C dX9_inState_37 rfl ?_
        refine V_ireturn C E dX9_inState_38 (by omega) (by omega) ?_
        exact Dt_rfl
      · exact absurd z11 (by first | omega | decide)
    | succ d ih =>
      intro j h1
      have bs := sxT_b T j
      have h9 := ih (j + 1) (by omega)
      rw [smG] at h9
      refine V_iload_n C dX9_inState_4 rfl ?_
      refine V_aload_n C dX9_inState_5 rfl ?_
      refine V_getR C 0 dX9_inState_6 o9 rfl hin_X9_inState_X9 (by decide) lk_X9_inState_7 rfl rfl ?_
      refine V_iconst C dX9_inState_9 ?_
      refine V_ialdJ C dX9_inState_10 hM.2.1 (by first | assumption | decide) (by omega) (pt_lo (by decide)) ?_
      refine V_icmp_ge C 37 dX9_inState_11 (by decide) (by omega) (by omega) (fun z11 => ?_) (fun z11 => ?_)
      · exact absurd z11 (by first | omega | decide)
      · refine V_iload_n C dX9_inState_14 rfl ?_
        refine V_aload_n C dX9_inState_15 rfl ?_
        refine V_iload_n C dX9_inState_16 rfl ?_
        refine V_callVD (nA := 1) C dX9_inState_17 (m_stateOf C.gp hM hB (by omega) (by omega)) gX9_inState_X9_stateOf rfl o9 rfl (by decide +kernel) rfl (by decide) (by decide) (Nat.le_of_ble_eq_true rfl) ⟨by omega, by omega⟩ rfl ?_
        refine V_iload_n C dX9_inState_20 rfl ?_
        refine V_icmp_ne C 28 dX9_inState_21 (by decide) (by omega) (by omega) (fun z21 => ?_) (fun z21 => ?_)
        · rw [show isS T s j = 0 by unfold isS; (repeat' split) <;> omega] at h9
          refine V_iconst C dX9_inState_28 ?_
          refine V_iadd C dX9_inState_29 ?_
          refine V_istore_n C dX9_inState_30 rfl (by decide) ?_
          refine V_iinc C dX9_inState_31 rfl rfl (by decide) ?_
          refine V_goto C 4 dX9_inState_34 (by decide) ?_
          exact h9
        · rw [show isS T s j = 1 by unfold isS; (repeat' split) <;> omega] at h9
          refine V_iconst C dX9_inState_24 ?_
          refine V_goto C 29 dX9_inState_25 (by decide) ?_
          refine V_iadd C dX9_inState_29 ?_
          refine V_istore_n C dX9_inState_30 rfl (by decide) ?_
          refine V_iinc C dX9_inState_31 rfl rfl (by decide) ?_
          refine V_goto C 4 dX9_inState_34 (by decide) ?_
          exact h9
  refine V_iconst C dX9_inState_0 ?_
  refine V_istore_n C dX9_inState_1 rfl (by decide) ?_
  refine V_iconst C dX9_inState_2 ?_
  refine V_istore_n C dX9_inState_3 rfl (by decide) ?_
  exact loop (mu (r + 1) 2).toNat 0 (by omega)
set_option maxRecDepth 20000 in
theorem ggX9_dividers_X9_of : GoodIn wsX9_dividers wsX9_of := goodIn_r _ [9, 10, 22, 23, 24, 25, 26, 27, 28, 29, 30, 31, 32, 33, 34, 35, 36, 37, 38, 39, 40, 41, 42, 43, 44, 45] (by decide +kernel) (by decide +kernel)
set_option maxRecDepth 20000 in
theorem gX9_dividers_X9_of : GoodIn wsX9_dividers (wsV RX9 77 RX9 yX9_of wsX9_of) := goodIn_app (goodIn_of _ (by decide +kernel)) ggX9_dividers_X9_of
set_option maxRecDepth 20000 in
theorem ggX9_dividers_X9_isSplit : GoodIn wsX9_dividers wsX9_isSplit := goodIn_r _ [14, 5, 6, 7, 8, 9, 10, 22, 23, 24, 25, 26, 27, 28, 29, 30, 31, 32, 33, 34, 35, 36, 37, 38, 39, 40, 41, 42, 43, 44, 45] (by decide +kernel) (by decide +kernel)
set_option maxRecDepth 20000 in
theorem gX9_dividers_X9_isSplit : GoodIn wsX9_dividers (wsV RX9 98 RX9 yX9_isSplit wsX9_isSplit) := goodIn_app (goodIn_of _ (by decide +kernel)) ggX9_dividers_X9_isSplit
set_option maxRecDepth 20000 in
theorem ggX9_dividers_X9_children : GoodIn wsX9_dividers wsX9_children := goodIn_r _ [18, 5, 6, 7, 8, 9, 10, 19, 20, 21, 22, 23, 24, 25, 26, 27, 28, 29, 30, 31, 32, 33, 34, 35, 36, 37, 38, 39, 40, 41, 42, 43, 44, 45] (by decide +kernel) (by decide +kernel)
set_option maxRecDepth 20000 in
theorem gX9_dividers_X9_children : GoodIn wsX9_dividers (wsV RX9 102 RX9 yX9_children wsX9_children) := goodIn_app (goodIn_of _ (by decide +kernel)) ggX9_dividers_X9_children
theorem dX9_dividers_0 : decode cX9_dividers 0 = .ok (.iconst 0, 1) := by decide +kernel
theorem dX9_dividers_1 : decode cX9_dividers 1 = .ok (.istore_n 1, 1) := by decide +kernel
theorem dX9_dividers_2 : decode cX9_dividers 2 = .ok (.iconst 0, 1) := by decide +kernel
theorem dX9_dividers_3 : decode cX9_dividers 3 = .ok (.istore_n 2, 1) := by decide +kernel
theorem dX9_dividers_4 : decode cX9_dividers 4 = .ok (.iload_n 2, 1) := by decide +kernel
theorem dX9_dividers_5 : decode cX9_dividers 5 = .ok (.aload_n 0, 1) := by decide +kernel
theorem dX9_dividers_6 : decode cX9_dividers 6 = .ok (.getfield 91, 3) := by decide +kernel
theorem dX9_dividers_9 : decode cX9_dividers 9 = .ok (.if_icmp .ge 68, 3) := by decide +kernel
theorem dX9_dividers_12 : decode cX9_dividers 12 = .ok (.aload_n 0, 1) := by decide +kernel
theorem dX9_dividers_13 : decode cX9_dividers 13 = .ok (.getfield 25, 3) := by decide +kernel
theorem dX9_dividers_16 : decode cX9_dividers 16 = .ok (.iload_n 2, 1) := by decide +kernel
theorem dX9_dividers_17 : decode cX9_dividers 17 = .ok (.iaload, 1) := by decide +kernel
theorem dX9_dividers_18 : decode cX9_dividers 18 = .ok (.istore_n 3, 1) := by decide +kernel
theorem dX9_dividers_19 : decode cX9_dividers 19 = .ok (.aload_n 0, 1) := by decide +kernel
theorem dX9_dividers_20 : decode cX9_dividers 20 = .ok (.iload_n 3, 1) := by decide +kernel
theorem dX9_dividers_21 : decode cX9_dividers 21 = .ok (.iconst 0, 1) := by decide +kernel
theorem dX9_dividers_22 : decode cX9_dividers 22 = .ok (.invokevirtual 77, 3) := by decide +kernel
theorem dX9_dividers_25 : decode cX9_dividers 25 = .ok (.iconst 2, 1) := by decide +kernel
theorem dX9_dividers_26 : decode cX9_dividers 26 = .ok (.if_icmp .ne 12, 3) := by decide +kernel
theorem dX9_dividers_29 : decode cX9_dividers 29 = .ok (.aload_n 0, 1) := by decide +kernel
theorem dX9_dividers_30 : decode cX9_dividers 30 = .ok (.getfield 43, 3) := by decide +kernel
theorem dX9_dividers_33 : decode cX9_dividers 33 = .ok (.iload_n 3, 1) := by decide +kernel
theorem dX9_dividers_34 : decode cX9_dividers 34 = .ok (.iaload, 1) := by decide +kernel
theorem dX9_dividers_35 : decode cX9_dividers 35 = .ok (.goto 9, 3) := by decide +kernel
theorem dX9_dividers_38 : decode cX9_dividers 38 = .ok (.aload_n 0, 1) := by decide +kernel
theorem dX9_dividers_39 : decode cX9_dividers 39 = .ok (.getfield 40, 3) := by decide +kernel
theorem dX9_dividers_42 : decode cX9_dividers 42 = .ok (.iload_n 3, 1) := by decide +kernel
theorem dX9_dividers_43 : decode cX9_dividers 43 = .ok (.iaload, 1) := by decide +kernel
theorem dX9_dividers_44 : decode cX9_dividers 44 = .ok (.istore 4, 2) := by decide +kernel
theorem dX9_dividers_46 : decode cX9_dividers 46 = .ok (.iload_n 1, 1) := by decide +kernel
theorem dX9_dividers_47 : decode cX9_dividers 47 = .ok (.aload_n 0, 1) := by decide +kernel
theorem dX9_dividers_48 : decode cX9_dividers 48 = .ok (.iload_n 3, 1) := by decide +kernel
theorem dX9_dividers_49 : decode cX9_dividers 49 = .ok (.invokevirtual 98, 3) := by decide +kernel
theorem dX9_dividers_52 : decode cX9_dividers 52 = .ok (.ifCond .eq 16, 3) := by decide +kernel
theorem dX9_dividers_55 : decode cX9_dividers 55 = .ok (.aload_n 0, 1) := by decide +kernel
theorem dX9_dividers_56 : decode cX9_dividers 56 = .ok (.iload_n 3, 1) := by decide +kernel
theorem dX9_dividers_57 : decode cX9_dividers 57 = .ok (.invokevirtual 102, 3) := by decide +kernel
theorem dX9_dividers_60 : decode cX9_dividers 60 = .ok (.iconst 1, 1) := by decide +kernel
theorem dX9_dividers_61 : decode cX9_dividers 61 = .ok (.isub, 1) := by decide +kernel
theorem dX9_dividers_62 : decode cX9_dividers 62 = .ok (.iload 4, 2) := by decide +kernel
theorem dX9_dividers_64 : decode cX9_dividers 64 = .ok (.imul, 1) := by decide +kernel
theorem dX9_dividers_65 : decode cX9_dividers 65 = .ok (.goto 4, 3) := by decide +kernel
theorem dX9_dividers_68 : decode cX9_dividers 68 = .ok (.iconst 0, 1) := by decide +kernel
theorem dX9_dividers_69 : decode cX9_dividers 69 = .ok (.iadd, 1) := by decide +kernel
theorem dX9_dividers_70 : decode cX9_dividers 70 = .ok (.istore_n 1, 1) := by decide +kernel
theorem dX9_dividers_71 : decode cX9_dividers 71 = .ok (.iinc 2 1, 3) := by decide +kernel
theorem dX9_dividers_74 : decode cX9_dividers 74 = .ok (.goto (-70), 3) := by decide +kernel
theorem dX9_dividers_77 : decode cX9_dividers 77 = .ok (.iload_n 1, 1) := by decide +kernel
theorem dX9_dividers_78 : decode cX9_dividers 78 = .ok (.ireturn, 1) := by decide +kernel
theorem hin_X9_dividers_X9 : ∀ w ∈ wsX90, w ∈ wsX9_dividers := by decide +kernel
theorem lk_X9_dividers_91 : Cond.fieldLink RX9 91 RX9 "queued" "I" ∈ wsX9_dividers := by decide +kernel
theorem lk_X9_dividers_25 : Cond.fieldLink RX9 25 RX9 "queue" "[I" ∈ wsX9_dividers := by decide +kernel
theorem lk_X9_dividers_43 : Cond.fieldLink RX9 43 RX9 "boxH" "[I" ∈ wsX9_dividers := by decide +kernel
theorem lk_X9_dividers_40 : Cond.fieldLink RX9 40 RX9 "boxW" "[I" ∈ wsX9_dividers := by decide +kernel
theorem m_dividers (hG : GP G) (hM : MoS S r) {N : Int} (hB : TB N T) (hN : N ≤ 1073740000) {q : Int} (hq : 0 ≤ q ∧ q ≤ 32) (h6 : ∀ i, 0 ≤ i ∧ i < q → 0 ≤ Z 6 i ∧ Z 6 i < 32) : Ct G l yX9_dividers wsX9_dividers 2 0 0 [.ref r] S n (lyM mu r T q Z) la (Dt (some (.int (I32 (smG (dvI T Z) q.toNat)))) S n (lyM mu r T q Z) la) := by
  have o9 := hM.1
  refine Ct.ofV (cc := cX9_dividers) (nL := 5) (ret := (some .int)) [some (.ref r), none, none, none, none] hG (by decide) rfl (Nat.le_of_ble_eq_true rfl) rfl ?_
  rintro X rfl rfl C hcl hsl E
  have loop : ∀ (d j : Nat) (w3 w4 : Option Value), j + d = q.toNat → V X 4 [some (.ref r), some (.int (I32 (smG (dvI T Z) j))), some (.int (I32 (j : Int))), w3, w4] [] S n (lyM mu r T q Z) la 0 0 := by
    intro d
    induction d with
    | zero =>
      intro j w3 w4 h1
      have hj : j = q.toNat := by omega
      subst hj
      refine V_iload_n C dX9_dividers_4 rfl ?_
      refine V_aload_n C dX9_dividers_5 rfl ?_
      refine V_getJ C 9 9 rfl dX9_dividers_6 o9 rfl hin_X9_dividers_X9 (by decide) lk_X9_dividers_91 rfl rfl (zM_q) ?_
      refine V_icmp_ge C 77 dX9_dividers_9 (by decide) (by omega) (by omega) (fun z9 => ?_) (fun z9 => ?_)
      · refine V_iload_n C dX9_dividers_77 rfl ?_
        refine V_ireturn C E dX9_dividers_78 (by omega) (by omega) ?_
        exact Dt_rfl
      · exact absurd z9 (by first | omega | decide)
    | succ d ih =>
      intro j w3 w4 h1
      have h9 := fun w3 w4 => ih (j + 1) w3 w4 (by omega)
      have hx := h6 j (by omega)
      have b0 := hB.n 0 (by decide) hx
      have bs := spT_b T (Z 6 j)
      have bk := kdT_b T (Z 6 j)
      rw [smG] at h9
      refine V_iload_n C dX9_dividers_4 rfl ?_
      refine V_aload_n C dX9_dividers_5 rfl ?_
      refine V_getJ C 9 9 rfl dX9_dividers_6 o9 rfl hin_X9_dividers_X9 (by decide) lk_X9_dividers_91 rfl rfl (zM_q) ?_
      refine V_icmp_ge C 77 dX9_dividers_9 (by decide) (by omega) (by omega) (fun z9 => ?_) (fun z9 => ?_)
      · exact absurd z9 (by first | omega | decide)
      · refine V_aload_n C dX9_dividers_12 rfl ?_
        refine V_getR C 8 dX9_dividers_13 o9 rfl hin_X9_dividers_X9 (by decide) lk_X9_dividers_25 rfl rfl ?_
        refine V_iload_n C dX9_dividers_16 rfl ?_
        refine V_ialdJ C dX9_dividers_17 (hM.k ⟨by decide,by decide⟩) (by first | assumption | decide) (by omega) (zM_k (by decide)) ?_
        refine V_istore_n C dX9_dividers_18 rfl (by decide) ?_
        refine V_aload_n C dX9_dividers_19 rfl ?_
        refine V_iload_n C dX9_dividers_20 rfl ?_
        refine V_iconst C dX9_dividers_21 ?_
        refine V_callVD (nA := 2) C dX9_dividers_22 (m_of C.gp hM (by omega) 0 (by decide) rfl) gX9_dividers_X9_of rfl o9 rfl (by decide +kernel) rfl (by decide) (by decide) (Nat.le_of_ble_eq_true rfl) ⟨by omega, by omega⟩ rfl ?_
        refine V_iconst C dX9_dividers_25 ?_
        refine V_icmp_ne C 38 dX9_dividers_26 (by decide) (by omega) (by omega) (fun z26 => ?_) (fun z26 => ?_)
        · refine V_aload_n C dX9_dividers_38 rfl ?_
          refine V_getR C 14 dX9_dividers_39 o9 rfl hin_X9_dividers_X9 (by decide) lk_X9_dividers_40 rfl rfl ?_
          refine V_iload_n C dX9_dividers_42 rfl ?_
          refine V_ialdJ C dX9_dividers_43 (hM.k ⟨by decide,by decide⟩) (by first | assumption | decide) (by omega) (zM_k (by decide)) ?_
          refine V_istore C dX9_dividers_44 rfl (by decide) ?_
          refine V_iload_n C dX9_dividers_46 rfl ?_
          refine V_aload_n C dX9_dividers_47 rfl ?_
          refine V_iload_n C dX9_dividers_48 rfl ?_
          refine V_callVD (nA := 1) C dX9_dividers_49 (m_isSplit C.gp hM hB (by omega) (by omega)) gX9_dividers_X9_isSplit rfl o9 rfl (by decide +kernel) rfl (by decide) (by decide) (Nat.le_of_ble_eq_true rfl) ⟨by omega, by omega⟩ rfl ?_
          refine V_if_eq C 68 dX9_dividers_52 (by decide) (by omega) (fun z52 => ?_) (fun z52 => ?_)
          · rw [show dvI T Z j = 0 by unfold dvI; rw [if_neg (by omega)]] at h9
            refine V_iconst C dX9_dividers_68 ?_
            refine V_iadd C dX9_dividers_69 ?_
            refine V_istore_n C dX9_dividers_70 rfl (by decide) ?_
            refine V_iinc C dX9_dividers_71 rfl rfl (by decide) ?_
            refine V_goto C 4 dX9_dividers_74 (by decide) ?_
            exact h9 _ _
          · first | (rw [show dvI T Z j = (kdT T (Z 6 j) - 1) * Z 12 (Z 6 j) by unfold dvI; rw [if_pos (by omega), if_pos (by assumption)]] at h9) | (rw [show dvI T Z j = (kdT T (Z 6 j) - 1) * Z 11 (Z 6 j) by unfold dvI; rw [if_pos (by omega), if_neg (by assumption)]] at h9)
            refine V_aload_n C dX9_dividers_55 rfl ?_
            refine V_iload_n C dX9_dividers_56 rfl ?_
            refine V_callVD (nA := 1) C dX9_dividers_57 (m_children C.gp hM hB (by omega) (by omega)) gX9_dividers_X9_children rfl o9 rfl (by decide +kernel) rfl (by decide) (by decide) (Nat.le_of_ble_eq_true rfl) ⟨by omega, by omega⟩ rfl ?_
            refine V_iconst C dX9_dividers_60 ?_
            refine V_isub C dX9_dividers_61 ?_
            refine V_iload C dX9_dividers_62 rfl ?_
            refine V_imul C dX9_dividers_64 ?_
            refine V_goto C 69 dX9_dividers_65 (by decide) ?_
            refine V_iadd C dX9_dividers_69 ?_
            refine V_istore_n C dX9_dividers_70 rfl (by decide) ?_
            refine V_iinc C dX9_dividers_71 rfl rfl (by decide) ?_
            refine V_goto C 4 dX9_dividers_74 (by decide) ?_
            exact h9 _ _
        · refine V_aload_n C dX9_dividers_29 rfl ?_
          refine V_getR C 15 dX9_dividers_30 o9 rfl hin_X9_dividers_X9 (by decide) lk_X9_dividers_43 rfl rfl ?_
          refine V_iload_n C dX9_dividers_33 rfl ?_
          refine V_ialdJ C dX9_dividers_34 (hM.k ⟨by decide,by decide⟩) (by first | assumption | decide) (by omega) (zM_k (by decide)) ?_
          refine V_goto C 44 dX9_dividers_35 (by decide) ?_
          refine V_istore C dX9_dividers_44 rfl (by decide) ?_
          refine V_iload_n C dX9_dividers_46 rfl ?_
          refine V_aload_n C dX9_dividers_47 rfl ?_
          refine V_iload_n C dX9_dividers_48 rfl ?_
          refine V_callVD (nA := 1) C dX9_dividers_49 (m_isSplit C.gp hM hB (by omega) (by omega)) gX9_dividers_X9_isSplit rfl o9 rfl (by decide +kernel) rfl (by decide) (by decide) (Nat.le_of_ble_eq_true rfl) ⟨by omega, by omega⟩ rfl ?_
          refine V_if_eq C 68 dX9_dividers_52 (by decide) (by omega) (fun z52 => ?_) (fun z52 => ?_)
          · rw [show dvI T Z j = 0 by unfold dvI; rw [if_neg (by omega)]] at h9
            refine V_iconst C dX9_dividers_68 ?_
            refine V_iadd C dX9_dividers_69 ?_
            refine V_istore_n C dX9_dividers_70 rfl (by decide) ?_
            refine V_iinc C dX9_dividers_71 rfl rfl (by decide) ?_
            refine V_goto C 4 dX9_dividers_74 (by decide) ?_
            exact h9 _ _
          · first | (rw [show dvI T Z j = (kdT T (Z 6 j) - 1) * Z 12 (Z 6 j) by unfold dvI; rw [if_pos (by omega), if_pos (by assumption)]] at h9) | (rw [show dvI T Z j = (kdT T (Z 6 j) - 1) * Z 11 (Z 6 j) by unfold dvI; rw [if_pos (by omega), if_neg (by assumption)]] at h9)
            refine V_aload_n C dX9_dividers_55 rfl ?_
            refine V_iload_n C dX9_dividers_56 rfl ?_
            refine V_callVD (nA := 1) C dX9_dividers_57 (m_children C.gp hM hB (by omega) (by omega)) gX9_dividers_X9_children rfl o9 rfl (by decide +kernel) rfl (by decide) (by decide) (Nat.le_of_ble_eq_true rfl) ⟨by omega, by omega⟩ rfl ?_
            refine V_iconst C dX9_dividers_60 ?_
            refine V_isub C dX9_dividers_61 ?_
            refine V_iload C dX9_dividers_62 rfl ?_
            refine V_imul C dX9_dividers_64 ?_
            refine V_goto C 69 dX9_dividers_65 (by decide) ?_
            refine V_iadd C dX9_dividers_69 ?_
            refine V_istore_n C dX9_dividers_70 rfl (by decide) ?_
            refine V_iinc C dX9_dividers_71 rfl rfl (by decide) ?_
            refine V_goto C 4 dX9_dividers_74 (by decide) ?_
            exact h9 _ _
  refine V_iconst C dX9_dividers_0 ?_
  refine V_istore_n C dX9_dividers_1 rfl (by decide) ?_
  refine V_iconst C dX9_dividers_2 ?_
  refine V_istore_n C dX9_dividers_3 rfl (by decide) ?_
  exact loop q.toNat 0 none none (by omega)
set_option maxRecDepth 20000 in
theorem ggX9_wholeTold_X9_inState : GoodIn wsX9_wholeTold wsX9_inState := goodIn_r _ [10, 1, 11, 12, 13, 9, 14, 15, 16, 17, 18, 19, 20, 21, 22, 49, 50, 51, 52, 53, 54, 55, 56, 57, 58, 59, 60, 61, 62, 63, 64, 65, 66, 67, 68, 69, 70, 71, 72] (by decide +kernel) (by decide +kernel)
set_option maxRecDepth 20000 in
theorem gX9_wholeTold_X9_inState : GoodIn wsX9_wholeTold (wsV RX9 271 RX9 yX9_inState wsX9_inState) := goodIn_app (goodIn_of _ (by decide +kernel)) ggX9_wholeTold_X9_inState
set_option maxRecDepth 20000 in
theorem ggX9_wholeTold_X9_count : GoodIn wsX9_wholeTold wsX9_count := goodIn_r _ [26, 19, 20, 21, 9, 22, 1, 49, 50, 51, 52, 53, 54, 55, 56, 57, 58, 59, 60, 61, 62, 63, 64, 65, 66, 67, 68, 69, 70, 71, 72] (by decide +kernel) (by decide +kernel)
set_option maxRecDepth 20000 in
theorem gX9_wholeTold_X9_count : GoodIn wsX9_wholeTold (wsV RX9 186 RX9 yX9_count wsX9_count) := goodIn_app (goodIn_of _ (by decide +kernel)) ggX9_wholeTold_X9_count
set_option maxRecDepth 20000 in
theorem ggX9_wholeTold_X9_tightMany : GoodIn wsX9_wholeTold wsX9_tightMany := goodIn_r _ [30, 2, 31, 4, 49, 50, 51, 52, 53, 54, 55, 56, 57, 58, 59, 60, 61, 62, 63, 64, 65, 66, 67, 68, 69, 70, 71, 72] (by decide +kernel) (by decide +kernel)
set_option maxRecDepth 20000 in
theorem gX9_wholeTold_X9_tightMany : GoodIn wsX9_wholeTold (wsV RX9 274 RX9 yX9_tightMany wsX9_tightMany) := goodIn_app (goodIn_of _ (by decide +kernel)) ggX9_wholeTold_X9_tightMany
set_option maxRecDepth 20000 in
theorem ggX9_wholeTold_X9_dividers : GoodIn wsX9_wholeTold wsX9_dividers := goodIn_r _ [35, 2, 4, 36, 37, 19, 20, 21, 9, 22, 1, 38, 39, 40, 41, 42, 43, 44, 45, 46, 47, 48, 49, 50, 51, 52, 53, 54, 55, 56, 57, 58, 59, 60, 61, 62, 63, 64, 65, 66, 67, 68, 69, 70, 71, 72] (by decide +kernel) (by decide +kernel)
set_option maxRecDepth 20000 in
theorem gX9_wholeTold_X9_dividers : GoodIn wsX9_wholeTold (wsV RX9 277 RX9 yX9_dividers wsX9_dividers) := goodIn_app (goodIn_of _ (by decide +kernel)) ggX9_wholeTold_X9_dividers
theorem dX9_wholeTold_0 : decode cX9_wholeTold 0 = .ok (.iload_n 1, 1) := by decide +kernel
theorem dX9_wholeTold_1 : decode cX9_wholeTold 1 = .ok (.tableswitch 153 0 10 #[59, 59, 59, 66, 72, 78, 84, 96, 102, 125, 148], 59) := by decide +kernel
theorem dX9_wholeTold_60 : decode cX9_wholeTold 60 = .ok (.aload_n 0, 1) := by decide +kernel
theorem dX9_wholeTold_61 : decode cX9_wholeTold 61 = .ok (.getfield 7, 3) := by decide +kernel
theorem dX9_wholeTold_64 : decode cX9_wholeTold 64 = .ok (.iload_n 1, 1) := by decide +kernel
theorem dX9_wholeTold_65 : decode cX9_wholeTold 65 = .ok (.iaload, 1) := by decide +kernel
theorem dX9_wholeTold_66 : decode cX9_wholeTold 66 = .ok (.ireturn, 1) := by decide +kernel
theorem dX9_wholeTold_67 : decode cX9_wholeTold 67 = .ok (.aload_n 0, 1) := by decide +kernel
theorem dX9_wholeTold_68 : decode cX9_wholeTold 68 = .ok (.iconst 1, 1) := by decide +kernel
theorem dX9_wholeTold_69 : decode cX9_wholeTold 69 = .ok (.invokevirtual 271, 3) := by decide +kernel
theorem dX9_wholeTold_72 : decode cX9_wholeTold 72 = .ok (.ireturn, 1) := by decide +kernel
theorem dX9_wholeTold_73 : decode cX9_wholeTold 73 = .ok (.aload_n 0, 1) := by decide +kernel
theorem dX9_wholeTold_74 : decode cX9_wholeTold 74 = .ok (.iconst 2, 1) := by decide +kernel
theorem dX9_wholeTold_75 : decode cX9_wholeTold 75 = .ok (.invokevirtual 271, 3) := by decide +kernel
theorem dX9_wholeTold_78 : decode cX9_wholeTold 78 = .ok (.ireturn, 1) := by decide +kernel
theorem dX9_wholeTold_79 : decode cX9_wholeTold 79 = .ok (.aload_n 0, 1) := by decide +kernel
theorem dX9_wholeTold_80 : decode cX9_wholeTold 80 = .ok (.iconst 1, 1) := by decide +kernel
theorem dX9_wholeTold_81 : decode cX9_wholeTold 81 = .ok (.invokevirtual 186, 3) := by decide +kernel
theorem dX9_wholeTold_84 : decode cX9_wholeTold 84 = .ok (.ireturn, 1) := by decide +kernel
theorem dX9_wholeTold_85 : decode cX9_wholeTold 85 = .ok (.aload_n 0, 1) := by decide +kernel
theorem dX9_wholeTold_86 : decode cX9_wholeTold 86 = .ok (.iconst 2, 1) := by decide +kernel
theorem dX9_wholeTold_87 : decode cX9_wholeTold 87 = .ok (.invokevirtual 186, 3) := by decide +kernel
theorem dX9_wholeTold_90 : decode cX9_wholeTold 90 = .ok (.aload_n 0, 1) := by decide +kernel
theorem dX9_wholeTold_91 : decode cX9_wholeTold 91 = .ok (.iconst 3, 1) := by decide +kernel
theorem dX9_wholeTold_92 : decode cX9_wholeTold 92 = .ok (.invokevirtual 186, 3) := by decide +kernel
theorem dX9_wholeTold_95 : decode cX9_wholeTold 95 = .ok (.iadd, 1) := by decide +kernel
theorem dX9_wholeTold_96 : decode cX9_wholeTold 96 = .ok (.ireturn, 1) := by decide +kernel
theorem dX9_wholeTold_97 : decode cX9_wholeTold 97 = .ok (.aload_n 0, 1) := by decide +kernel
theorem dX9_wholeTold_98 : decode cX9_wholeTold 98 = .ok (.iconst 4, 1) := by decide +kernel
theorem dX9_wholeTold_99 : decode cX9_wholeTold 99 = .ok (.invokevirtual 186, 3) := by decide +kernel
theorem dX9_wholeTold_102 : decode cX9_wholeTold 102 = .ok (.ireturn, 1) := by decide +kernel
theorem dX9_wholeTold_103 : decode cX9_wholeTold 103 = .ok (.aload_n 0, 1) := by decide +kernel
theorem dX9_wholeTold_104 : decode cX9_wholeTold 104 = .ok (.getfield 91, 3) := by decide +kernel
theorem dX9_wholeTold_107 : decode cX9_wholeTold 107 = .ok (.ifCond .ne 7, 3) := by decide +kernel
theorem dX9_wholeTold_110 : decode cX9_wholeTold 110 = .ok (.iconst 0, 1) := by decide +kernel
theorem dX9_wholeTold_111 : decode cX9_wholeTold 111 = .ok (.goto 14, 3) := by decide +kernel
theorem dX9_wholeTold_114 : decode cX9_wholeTold 114 = .ok (.aload_n 0, 1) := by decide +kernel
theorem dX9_wholeTold_115 : decode cX9_wholeTold 115 = .ok (.getfield 28, 3) := by decide +kernel
theorem dX9_wholeTold_118 : decode cX9_wholeTold 118 = .ok (.aload_n 0, 1) := by decide +kernel
theorem dX9_wholeTold_119 : decode cX9_wholeTold 119 = .ok (.getfield 25, 3) := by decide +kernel
theorem dX9_wholeTold_122 : decode cX9_wholeTold 122 = .ok (.iconst 0, 1) := by decide +kernel
theorem dX9_wholeTold_123 : decode cX9_wholeTold 123 = .ok (.iaload, 1) := by decide +kernel
theorem dX9_wholeTold_124 : decode cX9_wholeTold 124 = .ok (.iaload, 1) := by decide +kernel
theorem dX9_wholeTold_125 : decode cX9_wholeTold 125 = .ok (.ireturn, 1) := by decide +kernel
theorem dX9_wholeTold_126 : decode cX9_wholeTold 126 = .ok (.aload_n 0, 1) := by decide +kernel
theorem dX9_wholeTold_127 : decode cX9_wholeTold 127 = .ok (.getfield 91, 3) := by decide +kernel
theorem dX9_wholeTold_130 : decode cX9_wholeTold 130 = .ok (.ifCond .ne 7, 3) := by decide +kernel
theorem dX9_wholeTold_133 : decode cX9_wholeTold 133 = .ok (.iconst 0, 1) := by decide +kernel
theorem dX9_wholeTold_134 : decode cX9_wholeTold 134 = .ok (.goto 14, 3) := by decide +kernel
theorem dX9_wholeTold_137 : decode cX9_wholeTold 137 = .ok (.aload_n 0, 1) := by decide +kernel
theorem dX9_wholeTold_138 : decode cX9_wholeTold 138 = .ok (.getfield 31, 3) := by decide +kernel
theorem dX9_wholeTold_141 : decode cX9_wholeTold 141 = .ok (.aload_n 0, 1) := by decide +kernel
theorem dX9_wholeTold_142 : decode cX9_wholeTold 142 = .ok (.getfield 25, 3) := by decide +kernel
theorem dX9_wholeTold_145 : decode cX9_wholeTold 145 = .ok (.iconst 0, 1) := by decide +kernel
theorem dX9_wholeTold_146 : decode cX9_wholeTold 146 = .ok (.iaload, 1) := by decide +kernel
theorem dX9_wholeTold_147 : decode cX9_wholeTold 147 = .ok (.iaload, 1) := by decide +kernel
theorem dX9_wholeTold_148 : decode cX9_wholeTold 148 = .ok (.ireturn, 1) := by decide +kernel
theorem dX9_wholeTold_149 : decode cX9_wholeTold 149 = .ok (.aload_n 0, 1) := by decide +kernel
theorem dX9_wholeTold_150 : decode cX9_wholeTold 150 = .ok (.invokevirtual 274, 3) := by decide +kernel
theorem dX9_wholeTold_153 : decode cX9_wholeTold 153 = .ok (.ireturn, 1) := by decide +kernel
theorem dX9_wholeTold_154 : decode cX9_wholeTold 154 = .ok (.aload_n 0, 1) := by decide +kernel
theorem dX9_wholeTold_155 : decode cX9_wholeTold 155 = .ok (.invokevirtual 277, 3) := by decide +kernel
theorem dX9_wholeTold_158 : decode cX9_wholeTold 158 = .ok (.ireturn, 1) := by decide +kernel
theorem hin_X9_wholeTold_X9 : ∀ w ∈ wsX90, w ∈ wsX9_wholeTold := by decide +kernel
theorem lk_X9_wholeTold_7 : Cond.fieldLink RX9 7 RX9 "s" "[I" ∈ wsX9_wholeTold := by decide +kernel
theorem lk_X9_wholeTold_91 : Cond.fieldLink RX9 91 RX9 "queued" "I" ∈ wsX9_wholeTold := by decide +kernel
theorem lk_X9_wholeTold_28 : Cond.fieldLink RX9 28 RX9 "leastW" "[I" ∈ wsX9_wholeTold := by decide +kernel
theorem lk_X9_wholeTold_25 : Cond.fieldLink RX9 25 RX9 "queue" "[I" ∈ wsX9_wholeTold := by decide +kernel
theorem lk_X9_wholeTold_31 : Cond.fieldLink RX9 31 RX9 "leastH" "[I" ∈ wsX9_wholeTold := by decide +kernel
theorem m_wholeTold (hG : GP G) (hM : MoS S r) {N : Int} (hB : TB N T) (hN : N ≤ 1073740000) (hP : 0 ≤ mu (r + 1) 2 ∧ mu (r + 1) 2 ≤ 16) {q w : Int} (hq : 0 ≤ q ∧ q ≤ 32) (h6 : ∀ i, 0 ≤ i ∧ i < q → 0 ≤ Z 6 i ∧ Z 6 i < 32) (hw : 0 ≤ w ∧ w ≤ 11) : Ct G l yX9_wholeTold wsX9_wholeTold 3 0 0 [.ref r, .int (I32 w)] S n (lyM mu r T q Z) la (Dt (some (.int (I32 (wvF mu r T q Z w)))) S n (lyM mu r T q Z) la) := by
  have o9 := hM.1
  have hPz : 0 ≤ zM mu r q Z (r + 1) 2 ∧ zM mu r q Z (r + 1) 2 ≤ 16 := by rw [zM_b]; exact hP
  unfold wvF
  refine Ct.ofV (cc := cX9_wholeTold) (nL := 2) (ret := (some .int)) [some (.ref r), some (.int (I32 w))] hG (by decide) rfl (Nat.le_of_ble_eq_true rfl) rfl ?_
  rintro X rfl rfl C hcl hsl E
  have i1 := m_inState (l := xL X) (n := n) (la := la) (mu := zM mu r q Z) (T := T) C.gp hM hB (by omega) hPz (s := 1) (by omega)
  have i2 := m_inState (l := xL X) (n := n) (la := la) (mu := zM mu r q Z) (T := T) C.gp hM hB (by omega) hPz (s := 2) (by omega)
  rw [zM_b] at i1 i2
  have hw9 : w = 0 ∨ w = 1 ∨ w = 2 ∨ w = 3 ∨ w = 4 ∨ w = 5 ∨ w = 6 ∨ w = 7 ∨ w = 8 ∨ w = 9 ∨ w = 10 ∨ w = 11 := by omega
  rcases hw9 with rfl | rfl | rfl | rfl | rfl | rfl | rfl | rfl | rfl | rfl | rfl | rfl
  · refine V_iload_n C dX9_wholeTold_0 rfl ?_
    refine V_tableIn C 60 dX9_wholeTold_1 (by omega) (by omega) (by omega) rfl (by decide) ?_
    refine V_aload_n C dX9_wholeTold_60 rfl ?_
    refine V_getR C 0 dX9_wholeTold_61 o9 rfl hin_X9_wholeTold_X9 (by decide) lk_X9_wholeTold_7 rfl rfl ?_
    refine V_iload_n C dX9_wholeTold_64 rfl ?_
    refine V_ialdJ C dX9_wholeTold_65 hM.2.1 (by first | assumption | decide) (by omega) (zM_1 (by decide)) ?_
    refine V_ireturn C E dX9_wholeTold_66 (by omega) (by omega) ?_
    exact Dt_rfl
  · refine V_iload_n C dX9_wholeTold_0 rfl ?_
    refine V_tableIn C 60 dX9_wholeTold_1 (by omega) (by omega) (by omega) rfl (by decide) ?_
    refine V_aload_n C dX9_wholeTold_60 rfl ?_
    refine V_getR C 0 dX9_wholeTold_61 o9 rfl hin_X9_wholeTold_X9 (by decide) lk_X9_wholeTold_7 rfl rfl ?_
    refine V_iload_n C dX9_wholeTold_64 rfl ?_
    refine V_ialdJ C dX9_wholeTold_65 hM.2.1 (by first | assumption | decide) (by omega) (zM_1 (by decide)) ?_
    refine V_ireturn C E dX9_wholeTold_66 (by omega) (by omega) ?_
    exact Dt_rfl
  · refine V_iload_n C dX9_wholeTold_0 rfl ?_
    refine V_tableIn C 60 dX9_wholeTold_1 (by omega) (by omega) (by omega) rfl (by decide) ?_
    refine V_aload_n C dX9_wholeTold_60 rfl ?_
    refine V_getR C 0 dX9_wholeTold_61 o9 rfl hin_X9_wholeTold_X9 (by decide) lk_X9_wholeTold_7 rfl rfl ?_
    refine V_iload_n C dX9_wholeTold_64 rfl ?_
    refine V_ialdJ C dX9_wholeTold_65 hM.2.1 (by first | assumption | decide) (by omega) (zM_1 (by decide)) ?_
    refine V_ireturn C E dX9_wholeTold_66 (by omega) (by omega) ?_
    exact Dt_rfl
  · refine V_iload_n C dX9_wholeTold_0 rfl ?_
    refine V_tableIn C 67 dX9_wholeTold_1 (by omega) (by omega) (by omega) rfl (by decide) ?_
    refine V_aload_n C dX9_wholeTold_67 rfl ?_
    refine V_iconst C dX9_wholeTold_68 ?_
    refine V_callVD (nA := 1) C dX9_wholeTold_69 i1 gX9_wholeTold_X9_inState rfl o9 rfl (by decide +kernel) rfl (by decide) (by decide) (Nat.le_of_ble_eq_true rfl) ⟨by omega, by omega⟩ rfl ?_
    refine V_ireturn C E dX9_wholeTold_72 (by omega) (by omega) ?_
    exact Dt_rfl
  · refine V_iload_n C dX9_wholeTold_0 rfl ?_
    refine V_tableIn C 73 dX9_wholeTold_1 (by omega) (by omega) (by omega) rfl (by decide) ?_
    refine V_aload_n C dX9_wholeTold_73 rfl ?_
    refine V_iconst C dX9_wholeTold_74 ?_
    refine V_callVD (nA := 1) C dX9_wholeTold_75 i2 gX9_wholeTold_X9_inState rfl o9 rfl (by decide +kernel) rfl (by decide) (by decide) (Nat.le_of_ble_eq_true rfl) ⟨by omega, by omega⟩ rfl ?_
    refine V_ireturn C E dX9_wholeTold_78 (by omega) (by omega) ?_
    exact Dt_rfl
  · refine V_iload_n C dX9_wholeTold_0 rfl ?_
    refine V_tableIn C 79 dX9_wholeTold_1 (by omega) (by omega) (by omega) rfl (by decide) ?_
    refine V_aload_n C dX9_wholeTold_79 rfl ?_
    refine V_iconst C dX9_wholeTold_80 ?_
    refine V_callVD (nA := 1) C dX9_wholeTold_81 (m_count C.gp hM hB (by omega) (by omega)) gX9_wholeTold_X9_count rfl o9 rfl (by decide +kernel) rfl (by decide) (by decide) (Nat.le_of_ble_eq_true rfl) ⟨by omega, by omega⟩ rfl ?_
    refine V_ireturn C E dX9_wholeTold_84 (by omega) (by omega) ?_
    exact Dt_rfl
  · refine V_iload_n C dX9_wholeTold_0 rfl ?_
    refine V_tableIn C 85 dX9_wholeTold_1 (by omega) (by omega) (by omega) rfl (by decide) ?_
    refine V_aload_n C dX9_wholeTold_85 rfl ?_
    refine V_iconst C dX9_wholeTold_86 ?_
    refine V_callVD (nA := 1) C dX9_wholeTold_87 (m_count C.gp hM hB (by omega) (by omega)) gX9_wholeTold_X9_count rfl o9 rfl (by decide +kernel) rfl (by decide) (by decide) (Nat.le_of_ble_eq_true rfl) ⟨by omega, by omega⟩ rfl ?_
    refine V_aload_n C dX9_wholeTold_90 rfl ?_
    refine V_iconst C dX9_wholeTold_91 ?_
    refine V_callVD (nA := 1) C dX9_wholeTold_92 (m_count C.gp hM hB (by omega) (by omega)) gX9_wholeTold_X9_count rfl o9 rfl (by decide +kernel) rfl (by decide) (by decide) (Nat.le_of_ble_eq_true rfl) ⟨by omega, by omega⟩ rfl ?_
    refine V_iadd C dX9_wholeTold_95 ?_
    refine V_ireturn C E dX9_wholeTold_96 (by omega) (by omega) ?_
    exact Dt_rfl
  · refine V_iload_n C dX9_wholeTold_0 rfl ?_
    refine V_tableIn C 97 dX9_wholeTold_1 (by omega) (by omega) (by omega) rfl (by decide) ?_
    refine V_aload_n C dX9_wholeTold_97 rfl ?_
    refine V_iconst C dX9_wholeTold_98 ?_
    refine V_callVD (nA := 1) C dX9_wholeTold_99 (m_count C.gp hM hB (by omega) (by omega)) gX9_wholeTold_X9_count rfl o9 rfl (by decide +kernel) rfl (by decide) (by decide) (Nat.le_of_ble_eq_true rfl) ⟨by omega, by omega⟩ rfl ?_
    refine V_ireturn C E dX9_wholeTold_102 (by omega) (by omega) ?_
    exact Dt_rfl
  · have hx : q ≠ 0 → 0 ≤ Z 6 0 ∧ Z 6 0 < 32 := fun _ => h6 0 (by omega)
    refine V_iload_n C dX9_wholeTold_0 rfl ?_
    refine V_tableIn C 103 dX9_wholeTold_1 (by omega) (by omega) (by omega) rfl (by decide) ?_
    refine V_aload_n C dX9_wholeTold_103 rfl ?_
    refine V_getJ C 9 9 rfl dX9_wholeTold_104 o9 rfl hin_X9_wholeTold_X9 (by decide) lk_X9_wholeTold_91 rfl rfl (zM_q) ?_
    refine V_if_ne C 114 dX9_wholeTold_107 (by decide) (by omega) (fun z107 => ?_) (fun z107 => ?_)
    · have hx := hx (by omega)
      refine V_aload_n C dX9_wholeTold_114 rfl ?_
      refine V_getR C 10 dX9_wholeTold_115 o9 rfl hin_X9_wholeTold_X9 (by decide) lk_X9_wholeTold_28 rfl rfl ?_
      refine V_aload_n C dX9_wholeTold_118 rfl ?_
      refine V_getR C 8 dX9_wholeTold_119 o9 rfl hin_X9_wholeTold_X9 (by decide) lk_X9_wholeTold_25 rfl rfl ?_
      refine V_iconst C dX9_wholeTold_122 ?_
      refine V_ialdJ C dX9_wholeTold_123 (hM.k ⟨by decide,by decide⟩) (by first | assumption | decide) (by omega) (zM_k (by decide)) ?_
      refine V_ialdJ C dX9_wholeTold_124 (hM.k ⟨by decide,by decide⟩) (by first | assumption | decide) (by omega) (zM_k (by decide)) ?_
      refine V_ireturn C E dX9_wholeTold_125 (by omega) (by omega) ?_
      exact Dt_int (by show _ = if q = 0 then 0 else Z 7 (Z 6 0); (repeat' split) <;> first | rfl | omega)
    · refine V_iconst C dX9_wholeTold_110 ?_
      refine V_goto C 125 dX9_wholeTold_111 (by decide) ?_
      refine V_ireturn C E dX9_wholeTold_125 (by omega) (by omega) ?_
      exact Dt_int (by show _ = if q = 0 then 0 else Z 7 (Z 6 0); (repeat' split) <;> first | rfl | omega)
  · have hx : q ≠ 0 → 0 ≤ Z 6 0 ∧ Z 6 0 < 32 := fun _ => h6 0 (by omega)
    refine V_iload_n C dX9_wholeTold_0 rfl ?_
    refine V_tableIn C 126 dX9_wholeTold_1 (by omega) (by omega) (by omega) rfl (by decide) ?_
    refine V_aload_n C dX9_wholeTold_126 rfl ?_
    refine V_getJ C 9 9 rfl dX9_wholeTold_127 o9 rfl hin_X9_wholeTold_X9 (by decide) lk_X9_wholeTold_91 rfl rfl (zM_q) ?_
    refine V_if_ne C 137 dX9_wholeTold_130 (by decide) (by omega) (fun z130 => ?_) (fun z130 => ?_)
    · have hx := hx (by omega)
      refine V_aload_n C dX9_wholeTold_137 rfl ?_
      refine V_getR C 11 dX9_wholeTold_138 o9 rfl hin_X9_wholeTold_X9 (by decide) lk_X9_wholeTold_31 rfl rfl ?_
      refine V_aload_n C dX9_wholeTold_141 rfl ?_
      refine V_getR C 8 dX9_wholeTold_142 o9 rfl hin_X9_wholeTold_X9 (by decide) lk_X9_wholeTold_25 rfl rfl ?_
      refine V_iconst C dX9_wholeTold_145 ?_
      refine V_ialdJ C dX9_wholeTold_146 (hM.k ⟨by decide,by decide⟩) (by first | assumption | decide) (by omega) (zM_k (by decide)) ?_
      refine V_ialdJ C dX9_wholeTold_147 (hM.k ⟨by decide,by decide⟩) (by first | assumption | decide) (by omega) (zM_k (by decide)) ?_
      refine V_ireturn C E dX9_wholeTold_148 (by omega) (by omega) ?_
      exact Dt_int (by show _ = if q = 0 then 0 else Z 8 (Z 6 0); (repeat' split) <;> first | rfl | omega)
    · refine V_iconst C dX9_wholeTold_133 ?_
      refine V_goto C 148 dX9_wholeTold_134 (by decide) ?_
      refine V_ireturn C E dX9_wholeTold_148 (by omega) (by omega) ?_
      exact Dt_int (by show _ = if q = 0 then 0 else Z 8 (Z 6 0); (repeat' split) <;> first | rfl | omega)
  · refine V_iload_n C dX9_wholeTold_0 rfl ?_
    refine V_tableIn C 149 dX9_wholeTold_1 (by omega) (by omega) (by omega) rfl (by decide) ?_
    refine V_aload_n C dX9_wholeTold_149 rfl ?_
    refine V_callVD (nA := 0) C dX9_wholeTold_150 (m_tightMany C.gp hM hq h6) gX9_wholeTold_X9_tightMany rfl o9 rfl (by decide +kernel) rfl (by decide) (by decide) (Nat.le_of_ble_eq_true rfl) ⟨by omega, by omega⟩ rfl ?_
    refine V_ireturn C E dX9_wholeTold_153 (by omega) (by omega) ?_
    exact Dt_rfl
  · refine V_iload_n C dX9_wholeTold_0 rfl ?_
    refine V_tableOut C 154 dX9_wholeTold_1 (by omega) (by omega) (by decide) ?_
    refine V_aload_n C dX9_wholeTold_154 rfl ?_
    refine V_callVD (nA := 0) C dX9_wholeTold_155 (m_dividers C.gp hM hB (by omega) hq h6) gX9_wholeTold_X9_dividers rfl o9 rfl (by decide +kernel) rfl (by decide) (by decide) (Nat.le_of_ble_eq_true rfl) ⟨by omega, by omega⟩ rfl ?_
    refine V_ireturn C E dX9_wholeTold_158 (by omega) (by omega) ?_
    exact Dt_rfl
set_option maxRecDepth 20000 in
theorem ggX9_covers_X9_in : GoodIn wsX9_covers wsX9_in := goodIn_r _ [8] (by decide +kernel) (by decide +kernel)
set_option maxRecDepth 20000 in
theorem gX9_covers_X9_in : GoodIn wsX9_covers (va_wsS RX9 73 yX9_in wsX9_in) := goodIn_app (goodIn_of _ (by decide +kernel)) ggX9_covers_X9_in
theorem dX9_covers_0 : decode cX9_covers 0 = .ok (.iload_n 2, 1) := by decide +kernel
theorem dX9_covers_1 : decode cX9_covers 1 = .ok (.aload_n 0, 1) := by decide +kernel
theorem dX9_covers_2 : decode cX9_covers 2 = .ok (.getfield 34, 3) := by decide +kernel
theorem dX9_covers_5 : decode cX9_covers 5 = .ok (.iload_n 1, 1) := by decide +kernel
theorem dX9_covers_6 : decode cX9_covers 6 = .ok (.iaload, 1) := by decide +kernel
theorem dX9_covers_7 : decode cX9_covers 7 = .ok (.aload_n 0, 1) := by decide +kernel
theorem dX9_covers_8 : decode cX9_covers 8 = .ok (.getfield 34, 3) := by decide +kernel
theorem dX9_covers_11 : decode cX9_covers 11 = .ok (.iload_n 1, 1) := by decide +kernel
theorem dX9_covers_12 : decode cX9_covers 12 = .ok (.iaload, 1) := by decide +kernel
theorem dX9_covers_13 : decode cX9_covers 13 = .ok (.aload_n 0, 1) := by decide +kernel
theorem dX9_covers_14 : decode cX9_covers 14 = .ok (.getfield 40, 3) := by decide +kernel
theorem dX9_covers_17 : decode cX9_covers 17 = .ok (.iload_n 1, 1) := by decide +kernel
theorem dX9_covers_18 : decode cX9_covers 18 = .ok (.iaload, 1) := by decide +kernel
theorem dX9_covers_19 : decode cX9_covers 19 = .ok (.iadd, 1) := by decide +kernel
theorem dX9_covers_20 : decode cX9_covers 20 = .ok (.iconst 1, 1) := by decide +kernel
theorem dX9_covers_21 : decode cX9_covers 21 = .ok (.isub, 1) := by decide +kernel
theorem dX9_covers_22 : decode cX9_covers 22 = .ok (.invokestatic 73, 3) := by decide +kernel
theorem dX9_covers_25 : decode cX9_covers 25 = .ok (.ifCond .eq 35, 3) := by decide +kernel
theorem dX9_covers_28 : decode cX9_covers 28 = .ok (.iload_n 3, 1) := by decide +kernel
theorem dX9_covers_29 : decode cX9_covers 29 = .ok (.aload_n 0, 1) := by decide +kernel
theorem dX9_covers_30 : decode cX9_covers 30 = .ok (.getfield 37, 3) := by decide +kernel
theorem dX9_covers_33 : decode cX9_covers 33 = .ok (.iload_n 1, 1) := by decide +kernel
theorem dX9_covers_34 : decode cX9_covers 34 = .ok (.iaload, 1) := by decide +kernel
theorem dX9_covers_35 : decode cX9_covers 35 = .ok (.aload_n 0, 1) := by decide +kernel
theorem dX9_covers_36 : decode cX9_covers 36 = .ok (.getfield 37, 3) := by decide +kernel
theorem dX9_covers_39 : decode cX9_covers 39 = .ok (.iload_n 1, 1) := by decide +kernel
theorem dX9_covers_40 : decode cX9_covers 40 = .ok (.iaload, 1) := by decide +kernel
theorem dX9_covers_41 : decode cX9_covers 41 = .ok (.aload_n 0, 1) := by decide +kernel
theorem dX9_covers_42 : decode cX9_covers 42 = .ok (.getfield 43, 3) := by decide +kernel
theorem dX9_covers_45 : decode cX9_covers 45 = .ok (.iload_n 1, 1) := by decide +kernel
theorem dX9_covers_46 : decode cX9_covers 46 = .ok (.iaload, 1) := by decide +kernel
theorem dX9_covers_47 : decode cX9_covers 47 = .ok (.iadd, 1) := by decide +kernel
theorem dX9_covers_48 : decode cX9_covers 48 = .ok (.iconst 1, 1) := by decide +kernel
theorem dX9_covers_49 : decode cX9_covers 49 = .ok (.isub, 1) := by decide +kernel
theorem dX9_covers_50 : decode cX9_covers 50 = .ok (.invokestatic 73, 3) := by decide +kernel
theorem dX9_covers_53 : decode cX9_covers 53 = .ok (.ifCond .eq 7, 3) := by decide +kernel
theorem dX9_covers_56 : decode cX9_covers 56 = .ok (.iconst 1, 1) := by decide +kernel
theorem dX9_covers_57 : decode cX9_covers 57 = .ok (.goto 4, 3) := by decide +kernel
theorem dX9_covers_60 : decode cX9_covers 60 = .ok (.iconst 0, 1) := by decide +kernel
theorem dX9_covers_61 : decode cX9_covers 61 = .ok (.ireturn, 1) := by decide +kernel
theorem hin_X9_covers_X9 : ∀ w ∈ wsX90, w ∈ wsX9_covers := by decide +kernel
theorem lk_X9_covers_34 : Cond.fieldLink RX9 34 RX9 "boxX" "[I" ∈ wsX9_covers := by decide +kernel
theorem lk_X9_covers_40 : Cond.fieldLink RX9 40 RX9 "boxW" "[I" ∈ wsX9_covers := by decide +kernel
theorem lk_X9_covers_37 : Cond.fieldLink RX9 37 RX9 "boxY" "[I" ∈ wsX9_covers := by decide +kernel
theorem lk_X9_covers_43 : Cond.fieldLink RX9 43 RX9 "boxH" "[I" ∈ wsX9_covers := by decide +kernel
theorem m_covers (hG : GP G) (hM : MoS S r) (hR : R32Z Z) {q g x y : Int} (hg : 0 ≤ g ∧ g < 32) (hx : -2147483648 ≤ x ∧ x ≤ 2147483647) (hy : -2147483648 ≤ y ∧ y ≤ 2147483647) : Ct G l yX9_covers wsX9_covers 1 0 0 [.ref r, .int (I32 g), .int (I32 x), .int (I32 y)] S n (lyM mu r T q Z) la (Dt (some (.int (I32 (cvT Z g x y)))) S n (lyM mu r T q Z) la) := by
  have o9 := hM.1
  have q9 := hR 9 g (by decide)
  have q10 := hR 10 g (by decide)
  have b1 := wr_b (Z 9 g + Z 11 g - 1)
  have b2 := wr_b (Z 10 g + Z 12 g - 1)
  unfold cvT
  refine Ct.ofV (cc := cX9_covers) (nL := 4) (ret := (some .boolean)) [some (.ref r), some (.int (I32 g)), some (.int (I32 x)), some (.int (I32 y))] hG (by decide) rfl (Nat.le_of_ble_eq_true rfl) rfl ?_
  rintro X rfl rfl C hcl hsl E
  refine V_iload_n C dX9_covers_0 rfl ?_
  refine V_aload_n C dX9_covers_1 rfl ?_
  refine V_getR C 12 dX9_covers_2 o9 rfl hin_X9_covers_X9 (by decide) lk_X9_covers_34 rfl rfl ?_
  refine V_iload_n C dX9_covers_5 rfl ?_
  refine V_ialdJ C dX9_covers_6 (hM.k ⟨by decide,by decide⟩) (by first | assumption | decide) (by omega) (zM_k (by decide)) ?_
  refine V_aload_n C dX9_covers_7 rfl ?_
  refine V_getR C 12 dX9_covers_8 o9 rfl hin_X9_covers_X9 (by decide) lk_X9_covers_34 rfl rfl ?_
  refine V_iload_n C dX9_covers_11 rfl ?_
  refine V_ialdJ C dX9_covers_12 (hM.k ⟨by decide,by decide⟩) (by first | assumption | decide) (by omega) (zM_k (by decide)) ?_
  refine V_aload_n C dX9_covers_13 rfl ?_
  refine V_getR C 14 dX9_covers_14 o9 rfl hin_X9_covers_X9 (by decide) lk_X9_covers_40 rfl rfl ?_
  refine V_iload_n C dX9_covers_17 rfl ?_
  refine V_ialdJ C dX9_covers_18 (hM.k ⟨by decide,by decide⟩) (by first | assumption | decide) (by omega) (zM_k (by decide)) ?_
  refine V_iadd C dX9_covers_19 ?_
  refine V_iconst C dX9_covers_20 ?_
  refine V_isub C dX9_covers_21 ?_
  refine V_wr ?_
  refine V_callSD (nA := 3) C dX9_covers_22 (m_in C.gp hx q9 b1) gX9_covers_X9_in rfl (by decide +kernel) rfl (by decide) (by decide) (Nat.le_of_ble_eq_true rfl) ⟨by omega, by omega⟩ rfl ?_
  by_cases h1 : Z 9 g ≤ x ∧ x ≤ wr (Z 9 g + Z 11 g - 1)
  · rw [inI_1 h1]
    refine V_if_eq C 60 dX9_covers_25 (by decide) (by omega) (fun z1 => ?_) (fun z1 => ?_)
    · exact absurd z1 (by decide)
    · refine V_iload_n C dX9_covers_28 rfl ?_
      refine V_aload_n C dX9_covers_29 rfl ?_
      refine V_getR C 13 dX9_covers_30 o9 rfl hin_X9_covers_X9 (by decide) lk_X9_covers_37 rfl rfl ?_
      refine V_iload_n C dX9_covers_33 rfl ?_
      refine V_ialdJ C dX9_covers_34 (hM.k ⟨by decide,by decide⟩) (by first | assumption | decide) (by omega) (zM_k (by decide)) ?_
      refine V_aload_n C dX9_covers_35 rfl ?_
      refine V_getR C 13 dX9_covers_36 o9 rfl hin_X9_covers_X9 (by decide) lk_X9_covers_37 rfl rfl ?_
      refine V_iload_n C dX9_covers_39 rfl ?_
      refine V_ialdJ C dX9_covers_40 (hM.k ⟨by decide,by decide⟩) (by first | assumption | decide) (by omega) (zM_k (by decide)) ?_
      refine V_aload_n C dX9_covers_41 rfl ?_
      refine V_getR C 15 dX9_covers_42 o9 rfl hin_X9_covers_X9 (by decide) lk_X9_covers_43 rfl rfl ?_
      refine V_iload_n C dX9_covers_45 rfl ?_
      refine V_ialdJ C dX9_covers_46 (hM.k ⟨by decide,by decide⟩) (by first | assumption | decide) (by omega) (zM_k (by decide)) ?_
      refine V_iadd C dX9_covers_47 ?_
      refine V_iconst C dX9_covers_48 ?_
      refine V_isub C dX9_covers_49 ?_
      refine V_wr ?_
      refine V_callSD (nA := 3) C dX9_covers_50 (m_in C.gp hy q10 b2) gX9_covers_X9_in rfl (by decide +kernel) rfl (by decide) (by decide) (Nat.le_of_ble_eq_true rfl) ⟨by omega, by omega⟩ rfl ?_
      by_cases h2 : Z 10 g ≤ y ∧ y ≤ wr (Z 10 g + Z 12 g - 1)
      · rw [if_pos ⟨h1, h2⟩] at E
        rw [inI_1 h2]
        refine V_if_eq C 60 dX9_covers_53 (by decide) (by omega) (fun z2 => ?_) (fun z2 => ?_)
        · exact absurd z2 (by decide)
        · refine V_iconst C dX9_covers_56 ?_
          refine V_goto C 61 dX9_covers_57 (by decide) ?_
          refine V_zreturn C E (by first | exact Or.inl rfl | exact Or.inr rfl | simp) dX9_covers_61 (by omega) (by omega) ?_
          exact Dt_rfl
      · rw [if_neg (fun q => h2 q.2)] at E
        rw [inI_0 h2]
        refine V_if_eq C 60 dX9_covers_53 (by decide) (by omega) (fun z2 => ?_) (fun z2 => ?_)
        · refine V_iconst C dX9_covers_60 ?_
          refine V_zreturn C E (by first | exact Or.inl rfl | exact Or.inr rfl | simp) dX9_covers_61 (by omega) (by omega) ?_
          exact Dt_rfl
        · exact absurd rfl z2
  · rw [if_neg (fun q => h1 q.1)] at E
    rw [inI_0 h1]
    refine V_if_eq C 60 dX9_covers_25 (by decide) (by omega) (fun z1 => ?_) (fun z1 => ?_)
    · refine V_iconst C dX9_covers_60 ?_
      refine V_zreturn C E (by first | exact Or.inl rfl | exact Or.inr rfl | simp) dX9_covers_61 (by omega) (by omega) ?_
      exact Dt_rfl
    · exact absurd rfl z1
end MB
