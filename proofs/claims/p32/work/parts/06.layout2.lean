theorem insF_bd {N : Int} {L : Mem} (h : Bd N L) (hN : 1 ≤ N) (t : Int) {g i : Int} (hg : -(N + 1) ≤ g ∧ g ≤ N + 1) (hi : -(N + 1) ≤ i ∧ i ≤ N + 1) : Bd (N + 1) (insF L t g i) := by
  have b2 := aL_bd h hN 2 g
  exact pL_bd (pL_bd (pL_bd (insP_bd h _ _ _) _ _ hg) _ _ hi) _ _ (by omega)
def remA (L : Mem) (t : Int) : Mem := pL (pL L 0 t (-1)) 2 (aL L 0 t) (aL L 2 (aL L 0 t) - 1)
def remF (L : Mem) (t : Int) : Mem := remP (remA L t) (aL L 0 t) (aL L 1 t) 49
theorem remA_bd {N : Int} {L : Mem} (h : Bd N L) (hN : 1 ≤ N) (t : Int) : Bd (N + 1) (remA L t) := by
  have b2 := aL_bd h hN 2 (aL L 0 t)
  exact pL_bd (pL_bd (h.mono (by omega)) _ _ (by omega)) _ _ (by omega)
theorem remF_bd {N : Int} {L : Mem} (h : Bd N L) (hN : 1 ≤ N) (t : Int) : Bd (N + 2) (remF L t) := (remP_bd (remA_bd h hN t) _ _ _).mono (by omega)
def replF (L : Mem) (old new : Int) : Mem := pL (pL (pL (pL L 0 new (aL L 0 old)) 1 new (aL L 1 old)) 3 new (aL L 3 old)) 0 old (-1)
theorem replF_bd {N : Int} {L : Mem} (h : Bd N L) (hN : 1 ≤ N) (a c : Int) : Bd N (replF L a c) := by
  have b0 := aL_bd h hN 0 a
  have b1 := aL_bd h hN 1 a
  have b3 := aL_bd h hN 3 a
  exact pL_bd (pL_bd (pL_bd (pL_bd h _ _ (by omega)) _ _ (by omega)) _ _ (by omega)) _ _ (by omega)
def unuG (L : Mem) (e : Int) : Nat → Int
  | 0 => -1
  | m + 1 => if L 2 (e - (m + 1)) = 0 then e - (m + 1) else unuG L e m
def unuF (L : Mem) (a e : Int) : Int := unuG L e (e - a).toNat
theorem unuG_rng (L : Mem) (e : Int) : ∀ m : Nat, unuG L e m = -1 ∨ (e - m ≤ unuG L e m ∧ unuG L e m < e)
  | 0 => Or.inl rfl
  | m + 1 => by
    unfold unuG
    split
    · right; omega
    · rcases unuG_rng L e m with h | h
      · exact Or.inl h
      · right; omega
theorem unuF_rng (L : Mem) {a e : Int} (h : a ≤ e) : unuF L a e = -1 ∨ (a ≤ unuF L a e ∧ unuF L a e < e) := by
  rcases unuG_rng L e (e - a).toNat with q | q
  · exact Or.inl q
  · right; unfold unuF; omega
theorem mbrG_rng (L : Mem) (h i : Int) : ∀ m : Nat, m ≤ 49 → mbrG L h i m = -1 ∨ (0 ≤ mbrG L h i m ∧ mbrG L h i m < 49)
  | 0, _ => Or.inl rfl
  | m + 1, hm => by
    unfold mbrG
    split
    · right; omega
    · exact mbrG_rng L h i m (by omega)
theorem mbrF_rng (L : Mem) (h i : Int) : mbrF L h i = -1 ∨ (0 ≤ mbrF L h i ∧ mbrF L h i < 49) := mbrG_rng L h i 49 (by omega)
def axF (side : Int) : Int := if side = 0 ∨ side = 1 then 0 else 1
def bhF (side : Int) : Int := if side = 1 ∨ side = 3 then 1 else 0
def spF (t : Int) : Int := if 32 ≤ t ∧ t < 47 then 1 else 0
theorem axF_b (s : Int) : 0 ≤ axF s ∧ axF s ≤ 1 := by unfold axF; split <;> omega
theorem bhF_b (s : Int) : 0 ≤ bhF s ∧ bhF s ≤ 1 := by unfold bhF; split <;> omega
theorem spF_b (s : Int) : 0 ≤ spF s ∧ spF s ≤ 1 := by unfold spF; split <;> omega
theorem spF_1 {s : Int} : ¬ spF s = 0 ↔ (32 ≤ s ∧ s < 47) := by unfold spF; split <;> omega
def grpF (L : Mem) (p : Int) : Mem := pL (insF L p (unuF L 16 32) 0) 4 (unuF L 16 32 - 16) p
def wrapA (L : Mem) (sp old new side : Int) : Mem := insF (insF (replF (pL L 5 (sp - 32) (axF side)) old sp) old sp 0) new sp (bhF side)
def wrapF (L : Mem) (old new side : Int) : Mem := pL (pL (wrapA L (unuF L 32 47) old new side) 3 old 1) 3 new 1
def pbF (L : Mem) (g nb side : Int) : Mem :=
  if (32 ≤ aL L 0 nb ∧ aL L 0 nb < 47) ∧ aL L 5 (aL L 0 nb - 32) = axF side then pL (insF L g (aL L 0 nb) (aL L 1 nb + bhF side)) 3 g (aL L 3 nb) else wrapF L nb g side
def togA (L : Mem) (g : Int) : Mem := replF (remF (remF L g) (mbrF (remF L g) (aL L 0 g) 0)) (aL L 0 g) (mbrF (remF L g) (aL L 0 g) 0)
def togF (L : Mem) (g : Int) : Mem := if (32 ≤ aL L 0 g ∧ aL L 0 g < 47) ∧ aL (remF L g) 2 (aL L 0 g) = 1 then togA L g else remF L g
def tkF (L : Mem) (p : Int) : Mem :=
  if aL L 0 p = -1 then L
  else if aL (remF L p) 2 (aL L 0 p) = 0 then togF (remF L p) (aL L 0 p)
  else if aL (remF L p) 4 (aL L 0 p - 16) = p then pL (remF L p) 4 (aL L 0 p - 16) (mbrF (remF L p) (aL L 0 p) (min (aL L 1 p) (aL (remF L p) 2 (aL L 0 p) - 1)))
  else remF L p
def dkF (L : Mem) (p t side : Int) : Mem :=
  if side = 4 then pL (insF (tkF L p) p (aL (tkF L p) 0 t) (aL (tkF L p) 2 (aL (tkF L p) 0 t))) 4 (aL (tkF L p) 0 t - 16) p
  else pbF (grpF (tkF L p) p) (unuF (tkF L p) 16 32) (aL (tkF L p) 0 t) side
def rtF (L : Mem) : Int := mbrF L 47 0
def dwF (L : Mem) (p side : Int) : Mem :=
  let T := tkF L p
  let g := unuF T 16 32
  let M := grpF T p
  if rtF M = -1 then insF M g 47 0
  else if (32 ≤ rtF M ∧ rtF M < 47) ∧ aL M 5 (rtF M - 32) = axF side then pbF M g (mbrF M (rtF M) (if bhF side = 1 then aL M 2 (rtF M) - 1 else 0)) side
  else wrapF M (rtF M) g side
def flF (L : Mem) (p x y w h : Int) : Mem :=
  let T := tkF L p
  let g := unuF T 16 32
  let M := insF (grpF T p) g 48 (aL (grpF T p) 2 48)
  pL (pL (pL (pL M 6 (2 * (g - 16) + 0) x) 6 (2 * (g - 16) + 1) y) 7 (2 * (g - 16) + 0) w) 7 (2 * (g - 16) + 1) h
def raF (L : Mem) (g : Int) : Mem := insF (remF L g) g 48 (aL (remF L g) 2 48)
def mvF (L : Mem) (p i : Int) : Mem := insF (remF L p) p (aL L 0 p) i
theorem grpF_bd {N : Int} {L : Mem} (h : Bd N L) (hN : 100 ≤ N) {p : Int} (hp : -N ≤ p ∧ p ≤ N) : Bd (N + 1) (grpF L p) := by
  have r := unuF_rng L (a := 16) (e := 32) (by omega)
  exact pL_bd (insF_bd h (by omega) _ (by omega) (by omega)) _ _ (by omega)
theorem wrapF_bd {N : Int} {L : Mem} (h : Bd N L) (hN : 100 ≤ N) (a c s : Int) : Bd (N + 2) (wrapF L a c s) := by
  have r := unuF_rng L (a := 32) (e := 47) (by omega)
  have b1 := axF_b s
  have b2 := bhF_b s
  have h1 : Bd N (pL L 5 (unuF L 32 47 - 32) (axF s)) := pL_bd h _ _ (by omega)
  have h2 := insF_bd (insF_bd (replF_bd h1 (by omega) a (unuF L 32 47)) (by omega) a (g := unuF L 32 47) (i := 0) (by omega) (by omega)) (by omega) c (g := unuF L 32 47) (i := bhF s) (by omega) (by omega)
  exact pL_bd (pL_bd (h2.mono (by omega)) _ _ (by omega)) _ _ (by omega)
theorem pbF_bd {N : Int} {L : Mem} (h : Bd N L) (hN : 100 ≤ N) (a c s : Int) : Bd (N + 2) (pbF L a c s) := by
  have b1 := bhF_b s
  have b2 := aL_bd h (by omega) 0 c
  have b3 := aL_bd h (by omega) 1 c
  have b4 := aL_bd h (by omega) 3 c
  unfold pbF
  split
  · exact pL_bd ((insF_bd h (by omega) _ (by omega) (by omega)).mono (by omega)) _ _ (by omega)
  · exact wrapF_bd h hN c a s
theorem togF_bd {N : Int} {L : Mem} (h : Bd N L) (hN : 100 ≤ N) (g : Int) : Bd (N + 4) (togF L g) := by
  unfold togF togA
  split
  · exact (replF_bd (remF_bd (remF_bd h (by omega) _) (by omega) _) (by omega) _ _).mono (by omega)
  · exact (remF_bd h (by omega) g).mono (by omega)
theorem tkF_bd {N : Int} {L : Mem} (h : Bd N L) (hN : 100 ≤ N) (p : Int) : Bd (N + 6) (tkF L p) := by
  have h1 := remF_bd h (by omega) p
  unfold tkF
  split
  · exact h.mono (by omega)
  · split
    · exact (togF_bd h1 (by omega) _).mono (by omega)
    · split
      · have r := mbrF_rng (remF L p) (aL L 0 p) (min (aL L 1 p) (aL (remF L p) 2 (aL L 0 p) - 1))
        exact pL_bd (h1.mono (by omega)) _ _ (by omega)
      · exact h1.mono (by omega)
theorem dX8_isSplit_0 : decode cX8_isSplit 0 = .ok (.iload_n 0, 1) := by decide +kernel
theorem dX8_isSplit_1 : decode cX8_isSplit 1 = .ok (.bipush 32, 2) := by decide +kernel
theorem dX8_isSplit_3 : decode cX8_isSplit 3 = .ok (.if_icmp .lt 13, 3) := by decide +kernel
theorem dX8_isSplit_6 : decode cX8_isSplit 6 = .ok (.iload_n 0, 1) := by decide +kernel
theorem dX8_isSplit_7 : decode cX8_isSplit 7 = .ok (.bipush 47, 2) := by decide +kernel
theorem dX8_isSplit_9 : decode cX8_isSplit 9 = .ok (.if_icmp .ge 7, 3) := by decide +kernel
theorem dX8_isSplit_12 : decode cX8_isSplit 12 = .ok (.iconst 1, 1) := by decide +kernel
theorem dX8_isSplit_13 : decode cX8_isSplit 13 = .ok (.goto 4, 3) := by decide +kernel
theorem dX8_isSplit_16 : decode cX8_isSplit 16 = .ok (.iconst 0, 1) := by decide +kernel
theorem dX8_isSplit_17 : decode cX8_isSplit 17 = .ok (.ireturn, 1) := by decide +kernel
theorem c_isSplit {G : Gx} {l : Launch} (hG : GP G) {S : Sh} {n : Nat} {mu : Mem} {la : Lam} {t : Int} (ht : -2147483648 ≤ t ∧ t ≤ 2147483647) : Ct G l yX8_isSplit wsX8_isSplit 0 0 0 [.int (I32 t)] S n mu la (Dt (some (.int (I32 (spF t)))) S n mu la) := by
  refine Ct.ofV (cc := cX8_isSplit) (nL := 1) (ret := (some .boolean)) [some (.int (I32 t))] hG (by decide) rfl (Nat.le_of_ble_eq_true rfl) rfl ?_
  rintro X rfl rfl C hcl hsl E
  refine V_iload_n C dX8_isSplit_0 rfl ?_
  refine V_bipush C dX8_isSplit_1 (by decide +kernel) ?_
  refine V_icmp_lt C 16 dX8_isSplit_3 (by decide) (by omega) (by omega) (fun h1 => ?_) (fun h1 => ?_)
  · refine V_iconst C dX8_isSplit_16 ?_
    refine V_zreturn C E (Or.inl rfl) dX8_isSplit_17 (by omega) (by omega) ?_
    rw [spF, if_neg (by omega)]; exact Dt_rfl
  · refine V_iload_n C dX8_isSplit_6 rfl ?_
    refine V_bipush C dX8_isSplit_7 (by decide +kernel) ?_
    refine V_icmp_ge C 16 dX8_isSplit_9 (by decide) (by omega) (by omega) (fun h2 => ?_) (fun h2 => ?_)
    · refine V_iconst C dX8_isSplit_16 ?_
      refine V_zreturn C E (Or.inl rfl) dX8_isSplit_17 (by omega) (by omega) ?_
      rw [spF, if_neg (by omega)]; exact Dt_rfl
    · refine V_iconst C dX8_isSplit_12 ?_
      refine V_goto C 17 dX8_isSplit_13 (by decide) ?_
      refine V_zreturn C E (Or.inr rfl) dX8_isSplit_17 (by omega) (by omega) ?_
      rw [spF, if_pos (by omega)]; exact Dt_rfl
theorem dX4_axisAt_0 : decode cX4_axisAt 0 = .ok (.iload_n 0, 1) := by decide +kernel
theorem dX4_axisAt_1 : decode cX4_axisAt 1 = .ok (.ifCond .eq 8, 3) := by decide +kernel
theorem dX4_axisAt_4 : decode cX4_axisAt 4 = .ok (.iload_n 0, 1) := by decide +kernel
theorem dX4_axisAt_5 : decode cX4_axisAt 5 = .ok (.iconst 1, 1) := by decide +kernel
theorem dX4_axisAt_6 : decode cX4_axisAt 6 = .ok (.if_icmp .ne 7, 3) := by decide +kernel
theorem dX4_axisAt_9 : decode cX4_axisAt 9 = .ok (.iconst 0, 1) := by decide +kernel
theorem dX4_axisAt_10 : decode cX4_axisAt 10 = .ok (.goto 4, 3) := by decide +kernel
theorem dX4_axisAt_13 : decode cX4_axisAt 13 = .ok (.iconst 1, 1) := by decide +kernel
theorem dX4_axisAt_14 : decode cX4_axisAt 14 = .ok (.ireturn, 1) := by decide +kernel
theorem c_axisAt {G : Gx} {l : Launch} (hG : GP G) {S : Sh} {n : Nat} {mu : Mem} {la : Lam} {t : Int} (ht : -2147483648 ≤ t ∧ t ≤ 2147483647) : Ct G l yX4_axisAt wsX4_axisAt 0 0 0 [.int (I32 t)] S n mu la (Dt (some (.int (I32 (axF t)))) S n mu la) := by
  refine Ct.ofV (cc := cX4_axisAt) (nL := 1) (ret := (some .int)) [some (.int (I32 t))] hG (by decide) rfl (Nat.le_of_ble_eq_true rfl) rfl ?_
  rintro X rfl rfl C hcl hsl E
  refine V_iload_n C dX4_axisAt_0 rfl ?_
  refine V_if_eq C 9 dX4_axisAt_1 (by decide) (by omega) (fun h1 => ?_) (fun h1 => ?_)
  · refine V_iconst C dX4_axisAt_9 ?_
    refine V_goto C 14 dX4_axisAt_10 (by decide) ?_
    refine V_ireturn C E dX4_axisAt_14 (by omega) (by omega) ?_
    rw [axF, if_pos (by omega)]; exact Dt_rfl
  · refine V_iload_n C dX4_axisAt_4 rfl ?_
    refine V_iconst C dX4_axisAt_5 ?_
    refine V_icmp_ne C 13 dX4_axisAt_6 (by decide) (by omega) (by omega) (fun h2 => ?_) (fun h2 => ?_)
    · refine V_iconst C dX4_axisAt_13 ?_
      refine V_ireturn C E dX4_axisAt_14 (by omega) (by omega) ?_
      rw [axF, if_neg (by omega)]; exact Dt_rfl
    · refine V_iconst C dX4_axisAt_9 ?_
      refine V_goto C 14 dX4_axisAt_10 (by decide) ?_
      refine V_ireturn C E dX4_axisAt_14 (by omega) (by omega) ?_
      rw [axF, if_pos (by omega)]; exact Dt_rfl
theorem dX4_isBehind_0 : decode cX4_isBehind 0 = .ok (.iload_n 0, 1) := by decide +kernel
theorem dX4_isBehind_1 : decode cX4_isBehind 1 = .ok (.iconst 1, 1) := by decide +kernel
theorem dX4_isBehind_2 : decode cX4_isBehind 2 = .ok (.if_icmp .eq 8, 3) := by decide +kernel
theorem dX4_isBehind_5 : decode cX4_isBehind 5 = .ok (.iload_n 0, 1) := by decide +kernel
theorem dX4_isBehind_6 : decode cX4_isBehind 6 = .ok (.iconst 3, 1) := by decide +kernel
theorem dX4_isBehind_7 : decode cX4_isBehind 7 = .ok (.if_icmp .ne 7, 3) := by decide +kernel
theorem dX4_isBehind_10 : decode cX4_isBehind 10 = .ok (.iconst 1, 1) := by decide +kernel
theorem dX4_isBehind_11 : decode cX4_isBehind 11 = .ok (.goto 4, 3) := by decide +kernel
theorem dX4_isBehind_14 : decode cX4_isBehind 14 = .ok (.iconst 0, 1) := by decide +kernel
theorem dX4_isBehind_15 : decode cX4_isBehind 15 = .ok (.ireturn, 1) := by decide +kernel
theorem c_isBehind {G : Gx} {l : Launch} (hG : GP G) {S : Sh} {n : Nat} {mu : Mem} {la : Lam} {t : Int} (ht : -2147483648 ≤ t ∧ t ≤ 2147483647) : Ct G l yX4_isBehind wsX4_isBehind 0 0 0 [.int (I32 t)] S n mu la (Dt (some (.int (I32 (bhF t)))) S n mu la) := by
  refine Ct.ofV (cc := cX4_isBehind) (nL := 1) (ret := (some .boolean)) [some (.int (I32 t))] hG (by decide) rfl (Nat.le_of_ble_eq_true rfl) rfl ?_
  rintro X rfl rfl C hcl hsl E
  refine V_iload_n C dX4_isBehind_0 rfl ?_
  refine V_iconst C dX4_isBehind_1 ?_
  refine V_icmp_eq C 10 dX4_isBehind_2 (by decide) (by omega) (by omega) (fun h1 => ?_) (fun h1 => ?_)
  · refine V_iconst C dX4_isBehind_10 ?_
    refine V_goto C 15 dX4_isBehind_11 (by decide) ?_
    refine V_zreturn C E (Or.inr rfl) dX4_isBehind_15 (by omega) (by omega) ?_
    rw [bhF, if_pos (by omega)]; exact Dt_rfl
  · refine V_iload_n C dX4_isBehind_5 rfl ?_
    refine V_iconst C dX4_isBehind_6 ?_
    refine V_icmp_ne C 14 dX4_isBehind_7 (by decide) (by omega) (by omega) (fun h2 => ?_) (fun h2 => ?_)
    · refine V_iconst C dX4_isBehind_14 ?_
      refine V_zreturn C E (Or.inl rfl) dX4_isBehind_15 (by omega) (by omega) ?_
      rw [bhF, if_neg (by omega)]; exact Dt_rfl
    · refine V_iconst C dX4_isBehind_10 ?_
      refine V_goto C 15 dX4_isBehind_11 (by decide) ?_
      refine V_zreturn C E (Or.inr rfl) dX4_isBehind_15 (by omega) (by omega) ?_
      rw [bhF, if_pos (by omega)]; exact Dt_rfl
section LC
variable {G : Gx} {l : Launch} {S : Sh} {n : Nat} {mu : Mem} {la : Lam} {b : Nat} {L : Mem} {N : Int}
set_option maxRecDepth 20000 in
theorem ggX4_remove_X8_at : GoodIn wsX4_remove wsX8_at := goodIn_r _ [6] (by decide +kernel) (by decide +kernel)
set_option maxRecDepth 20000 in
theorem gX4_remove_X8_at_n46 : GoodIn wsX4_remove (wsX8_at) := ggX4_remove_X8_at
set_option maxRecDepth 20000 in
theorem ggX4_remove_X8_put : GoodIn wsX4_remove wsX8_put := goodIn_r _ [8] (by decide +kernel) (by decide +kernel)
set_option maxRecDepth 20000 in
theorem gX4_remove_X8_put_n50 : GoodIn wsX4_remove (wsX8_put) := ggX4_remove_X8_put
theorem dX4_remove_0 : decode cX4_remove 0 = .ok (.aload_n 0, 1) := by decide +kernel
theorem dX4_remove_1 : decode cX4_remove 1 = .ok (.getfield 9, 3) := by decide +kernel
theorem dX4_remove_4 : decode cX4_remove 4 = .ok (.iload_n 1, 1) := by decide +kernel
theorem dX4_remove_5 : decode cX4_remove 5 = .ok (.invokestatic 46, 3) := by decide +kernel
theorem dX4_remove_8 : decode cX4_remove 8 = .ok (.istore_n 2, 1) := by decide +kernel
theorem dX4_remove_9 : decode cX4_remove 9 = .ok (.aload_n 0, 1) := by decide +kernel
theorem dX4_remove_10 : decode cX4_remove 10 = .ok (.getfield 15, 3) := by decide +kernel
theorem dX4_remove_13 : decode cX4_remove 13 = .ok (.iload_n 1, 1) := by decide +kernel
theorem dX4_remove_14 : decode cX4_remove 14 = .ok (.invokestatic 46, 3) := by decide +kernel
theorem dX4_remove_17 : decode cX4_remove 17 = .ok (.istore_n 3, 1) := by decide +kernel
theorem dX4_remove_18 : decode cX4_remove 18 = .ok (.aload_n 0, 1) := by decide +kernel
theorem dX4_remove_19 : decode cX4_remove 19 = .ok (.getfield 9, 3) := by decide +kernel
theorem dX4_remove_22 : decode cX4_remove 22 = .ok (.iload_n 1, 1) := by decide +kernel
theorem dX4_remove_23 : decode cX4_remove 23 = .ok (.iconst (-1), 1) := by decide +kernel
theorem dX4_remove_24 : decode cX4_remove 24 = .ok (.invokestatic 50, 3) := by decide +kernel
theorem dX4_remove_27 : decode cX4_remove 27 = .ok (.aload_n 0, 1) := by decide +kernel
theorem dX4_remove_28 : decode cX4_remove 28 = .ok (.getfield 18, 3) := by decide +kernel
theorem dX4_remove_31 : decode cX4_remove 31 = .ok (.iload_n 2, 1) := by decide +kernel
theorem dX4_remove_32 : decode cX4_remove 32 = .ok (.aload_n 0, 1) := by decide +kernel
theorem dX4_remove_33 : decode cX4_remove 33 = .ok (.getfield 18, 3) := by decide +kernel
theorem dX4_remove_36 : decode cX4_remove 36 = .ok (.iload_n 2, 1) := by decide +kernel
theorem dX4_remove_37 : decode cX4_remove 37 = .ok (.invokestatic 46, 3) := by decide +kernel
theorem dX4_remove_40 : decode cX4_remove 40 = .ok (.iconst 1, 1) := by decide +kernel
theorem dX4_remove_41 : decode cX4_remove 41 = .ok (.isub, 1) := by decide +kernel
theorem dX4_remove_42 : decode cX4_remove 42 = .ok (.invokestatic 50, 3) := by decide +kernel
theorem dX4_remove_45 : decode cX4_remove 45 = .ok (.iconst 0, 1) := by decide +kernel
theorem dX4_remove_46 : decode cX4_remove 46 = .ok (.istore 4, 2) := by decide +kernel
theorem dX4_remove_48 : decode cX4_remove 48 = .ok (.iload 4, 2) := by decide +kernel
theorem dX4_remove_50 : decode cX4_remove 50 = .ok (.bipush 49, 2) := by decide +kernel
theorem dX4_remove_52 : decode cX4_remove 52 = .ok (.if_icmp .ge 55, 3) := by decide +kernel
theorem dX4_remove_55 : decode cX4_remove 55 = .ok (.aload_n 0, 1) := by decide +kernel
theorem dX4_remove_56 : decode cX4_remove 56 = .ok (.getfield 9, 3) := by decide +kernel
theorem dX4_remove_59 : decode cX4_remove 59 = .ok (.iload 4, 2) := by decide +kernel
theorem dX4_remove_61 : decode cX4_remove 61 = .ok (.invokestatic 46, 3) := by decide +kernel
theorem dX4_remove_64 : decode cX4_remove 64 = .ok (.iload_n 2, 1) := by decide +kernel
theorem dX4_remove_65 : decode cX4_remove 65 = .ok (.if_icmp .ne 36, 3) := by decide +kernel
theorem dX4_remove_68 : decode cX4_remove 68 = .ok (.aload_n 0, 1) := by decide +kernel
theorem dX4_remove_69 : decode cX4_remove 69 = .ok (.getfield 15, 3) := by decide +kernel
theorem dX4_remove_72 : decode cX4_remove 72 = .ok (.iload 4, 2) := by decide +kernel
theorem dX4_remove_74 : decode cX4_remove 74 = .ok (.invokestatic 46, 3) := by decide +kernel
theorem dX4_remove_77 : decode cX4_remove 77 = .ok (.iload_n 3, 1) := by decide +kernel
theorem dX4_remove_78 : decode cX4_remove 78 = .ok (.if_icmp .le 23, 3) := by decide +kernel
theorem dX4_remove_81 : decode cX4_remove 81 = .ok (.aload_n 0, 1) := by decide +kernel
theorem dX4_remove_82 : decode cX4_remove 82 = .ok (.getfield 15, 3) := by decide +kernel
theorem dX4_remove_85 : decode cX4_remove 85 = .ok (.iload 4, 2) := by decide +kernel
theorem dX4_remove_87 : decode cX4_remove 87 = .ok (.aload_n 0, 1) := by decide +kernel
theorem dX4_remove_88 : decode cX4_remove 88 = .ok (.getfield 15, 3) := by decide +kernel
theorem dX4_remove_91 : decode cX4_remove 91 = .ok (.iload 4, 2) := by decide +kernel
theorem dX4_remove_93 : decode cX4_remove 93 = .ok (.invokestatic 46, 3) := by decide +kernel
theorem dX4_remove_96 : decode cX4_remove 96 = .ok (.iconst 1, 1) := by decide +kernel
theorem dX4_remove_97 : decode cX4_remove 97 = .ok (.isub, 1) := by decide +kernel
theorem dX4_remove_98 : decode cX4_remove 98 = .ok (.invokestatic 50, 3) := by decide +kernel
theorem dX4_remove_101 : decode cX4_remove 101 = .ok (.iinc 4 1, 3) := by decide +kernel
theorem dX4_remove_104 : decode cX4_remove 104 = .ok (.goto (-56), 3) := by decide +kernel
theorem dX4_remove_107 : decode cX4_remove 107 = .ok (.return_, 1) := by decide +kernel
theorem hin_X4_remove_X4 : ∀ w ∈ wsX40, w ∈ wsX4_remove := by decide +kernel
theorem lk_X4_remove_9 : Cond.fieldLink RX4 9 RX4 "holder" "[I" ∈ wsX4_remove := by decide +kernel
theorem lk_X4_remove_15 : Cond.fieldLink RX4 15 RX4 "place" "[I" ∈ wsX4_remove := by decide +kernel
theorem lk_X4_remove_18 : Cond.fieldLink RX4 18 RX4 "count" "[I" ∈ wsX4_remove := by decide +kernel
theorem c_remove (hG : GP G) (hL : LayS S b) (hB : Bd N L) (hN : 1 ≤ N ∧ N ≤ 1073741000) {t : Int} (ht : -1073741824 ≤ t ∧ t ≤ 1073741824) : Ct G l yX4_remove wsX4_remove 1 0 0 [.ref b, .int (I32 t)] S n (putL mu b L) la (Dt none S n (putL mu b (remF L t)) la) := by
  have o4 := hL.1
  have bh := aL_bd hB hN.1 0 t
  have bg := aL_bd hB hN.1 1 t
  have bc := aL_bd hB hN.1 2 (aL L 0 t)
  have hB2 := remA_bd hB hN.1 t
  refine Ct.ofV (cc := cX4_remove) (nL := 5) (ret := none) [some (.ref b), some (.int (I32 t)), none, none, none] hG (by decide) rfl (Nat.le_of_ble_eq_true rfl) rfl ?_
  rintro X rfl rfl C hcl hsl E
  have loop : ∀ (m : Nat) (j : Int), 0 ≤ j → j + m = 49 → V X 48 [some (.ref b), some (.int (I32 t)), some (.int (I32 (aL L 0 t))), some (.int (I32 (aL L 1 t))), some (.int (I32 j))] [] S n (putL mu b (remP (remA L t) (aL L 0 t) (aL L 1 t) j)) la 0 0 := by
    intro m
    induction m with
    | zero =>
      intro j h0 hj
      have e : j = 49 := by omega
      subst e
      refine V_iload C dX4_remove_48 rfl ?_
      refine V_bipush C dX4_remove_50 (by decide +kernel) ?_
      refine V_icmp_ge C 107 dX4_remove_52 (by decide) (by omega) (by omega) (fun c => ?_) (fun c => ?_)
      · refine V_return C E dX4_remove_107 (by omega) (by omega) ?_
        exact Dt_rfl
      · exact absurd c (by omega)
    | succ m ih =>
      intro j h0 hj
      have e0 : aL (remP (remA L t) (aL L 0 t) (aL L 1 t) j) 0 j = remA L t 0 j := by rw [aL_in (by show 0 ≤ j ∧ j < ((49 : Nat) : Int); omega), remP_hi _ _ _ _ _ (by omega)]
      have e1 : aL (remP (remA L t) (aL L 0 t) (aL L 1 t) j) 1 j = remA L t 1 j := by rw [aL_in (by show 0 ≤ j ∧ j < ((49 : Nat) : Int); omega), remP_hi _ _ _ _ _ (by omega)]
      have b0 := hB2 0 j
      have b1 := hB2 1 j
      refine V_iload C dX4_remove_48 rfl ?_
      refine V_bipush C dX4_remove_50 (by decide +kernel) ?_
      refine V_icmp_ge C 107 dX4_remove_52 (by decide) (by omega) (by omega) (fun c => ?_) (fun c => ?_)
      · exact absurd c (by omega)
      · refine V_aload_n C dX4_remove_55 rfl ?_
        refine V_getR C 0 dX4_remove_56 o4 rfl hin_X4_remove_X4 (by decide) lk_X4_remove_9 rfl rfl ?_
        refine V_iload C dX4_remove_59 rfl ?_
        refine V_callSND (nA := 2) (host := "DockTree") C dX4_remove_61 (c_aL C.gp hL 0 _ (by decide) rfl (by omega)) gX4_remove_X8_at_n46 (by decide +kernel) (by decide +kernel) (by decide +kernel) rfl (by decide +kernel) rfl (by decide) (by decide) (Nat.le_of_ble_eq_true rfl) ⟨by omega, by omega⟩ rfl ?_
        rw [e0]
        refine V_iload_n C dX4_remove_64 rfl ?_
        refine V_icmp_ne C 101 dX4_remove_65 (by decide) (by omega) (by omega) (fun c0 => ?_) (fun c0 => ?_)
        · rw [remP_no (fun q => c0 q.1)]
          refine V_iinc C dX4_remove_101 rfl rfl (by decide) ?_
          refine V_goto C 48 dX4_remove_104 (by decide) ?_
          exact ih (j + 1) (by omega) (by omega)
        · refine V_aload_n C dX4_remove_68 rfl ?_
          refine V_getR C 1 dX4_remove_69 o4 rfl hin_X4_remove_X4 (by decide) lk_X4_remove_15 rfl rfl ?_
          refine V_iload C dX4_remove_72 rfl ?_
          refine V_callSND (nA := 2) (host := "DockTree") C dX4_remove_74 (c_aL C.gp hL 1 _ (by decide) rfl (by omega)) gX4_remove_X8_at_n46 (by decide +kernel) (by decide +kernel) (by decide +kernel) rfl (by decide +kernel) rfl (by decide) (by decide) (Nat.le_of_ble_eq_true rfl) ⟨by omega, by omega⟩ rfl ?_
          rw [e1]
          refine V_iload_n C dX4_remove_77 rfl ?_
          refine V_icmp_le C 101 dX4_remove_78 (by decide) (by omega) (by omega) (fun c1 => ?_) (fun c1 => ?_)
          · rw [remP_no (fun q => by omega)]
            refine V_iinc C dX4_remove_101 rfl rfl (by decide) ?_
            refine V_goto C 48 dX4_remove_104 (by decide) ?_
            exact ih (j + 1) (by omega) (by omega)
          · refine V_aload_n C dX4_remove_81 rfl ?_
            refine V_getR C 1 dX4_remove_82 o4 rfl hin_X4_remove_X4 (by decide) lk_X4_remove_15 rfl rfl ?_
            refine V_iload C dX4_remove_85 rfl ?_
            refine V_aload_n C dX4_remove_87 rfl ?_
            refine V_getR C 1 dX4_remove_88 o4 rfl hin_X4_remove_X4 (by decide) lk_X4_remove_15 rfl rfl ?_
            refine V_iload C dX4_remove_91 rfl ?_
            refine V_callSND (nA := 2) (host := "DockTree") C dX4_remove_93 (c_aL C.gp hL 1 _ (by decide) rfl (by omega)) gX4_remove_X8_at_n46 (by decide +kernel) (by decide +kernel) (by decide +kernel) rfl (by decide +kernel) rfl (by decide) (by decide) (Nat.le_of_ble_eq_true rfl) ⟨by omega, by omega⟩ rfl ?_
            rw [e1]
            refine V_iconst C dX4_remove_96 ?_
            refine V_isub C dX4_remove_97 ?_
            refine V_callSND (nA := 3) (host := "DockTree") C dX4_remove_98 (c_pL C.gp hL 1 (by decide) (by omega)) gX4_remove_X8_put_n50 (by decide +kernel) (by decide +kernel) (by decide +kernel) rfl (by decide +kernel) rfl (by decide) (by decide) (Nat.le_of_ble_eq_true rfl) ⟨by omega, by omega⟩ rfl ?_
            rw [remP_yes (by omega) c0 c1]
            refine V_iinc C dX4_remove_101 rfl rfl (by decide) ?_
            refine V_goto C 48 dX4_remove_104 (by decide) ?_
            exact ih (j + 1) (by omega) (by omega)
  refine V_aload_n C dX4_remove_0 rfl ?_
  refine V_getR C 0 dX4_remove_1 o4 rfl hin_X4_remove_X4 (by decide) lk_X4_remove_9 rfl rfl ?_
  refine V_iload_n C dX4_remove_4 rfl ?_
  refine V_callSND (nA := 2) (host := "DockTree") C dX4_remove_5 (c_aL C.gp hL 0 _ (by decide) rfl (by omega)) gX4_remove_X8_at_n46 (by decide +kernel) (by decide +kernel) (by decide +kernel) rfl (by decide +kernel) rfl (by decide) (by decide) (Nat.le_of_ble_eq_true rfl) ⟨by omega, by omega⟩ rfl ?_
  refine V_istore_n C dX4_remove_8 rfl (by decide) ?_
  refine V_aload_n C dX4_remove_9 rfl ?_
  refine V_getR C 1 dX4_remove_10 o4 rfl hin_X4_remove_X4 (by decide) lk_X4_remove_15 rfl rfl ?_
  refine V_iload_n C dX4_remove_13 rfl ?_
  refine V_callSND (nA := 2) (host := "DockTree") C dX4_remove_14 (c_aL C.gp hL 1 _ (by decide) rfl (by omega)) gX4_remove_X8_at_n46 (by decide +kernel) (by decide +kernel) (by decide +kernel) rfl (by decide +kernel) rfl (by decide) (by decide) (Nat.le_of_ble_eq_true rfl) ⟨by omega, by omega⟩ rfl ?_
  refine V_istore_n C dX4_remove_17 rfl (by decide) ?_
  refine V_aload_n C dX4_remove_18 rfl ?_
  refine V_getR C 0 dX4_remove_19 o4 rfl hin_X4_remove_X4 (by decide) lk_X4_remove_9 rfl rfl ?_
  refine V_iload_n C dX4_remove_22 rfl ?_
  refine V_iconst C dX4_remove_23 ?_
  refine V_callSND (nA := 3) (host := "DockTree") C dX4_remove_24 (c_pL C.gp hL 0 (by decide) (by omega)) gX4_remove_X8_put_n50 (by decide +kernel) (by decide +kernel) (by decide +kernel) rfl (by decide +kernel) rfl (by decide) (by decide) (Nat.le_of_ble_eq_true rfl) ⟨by omega, by omega⟩ rfl ?_
  refine V_aload_n C dX4_remove_27 rfl ?_
  refine V_getR C 2 dX4_remove_28 o4 rfl hin_X4_remove_X4 (by decide) lk_X4_remove_18 rfl rfl ?_
  refine V_iload_n C dX4_remove_31 rfl ?_
  refine V_aload_n C dX4_remove_32 rfl ?_
  refine V_getR C 2 dX4_remove_33 o4 rfl hin_X4_remove_X4 (by decide) lk_X4_remove_18 rfl rfl ?_
  refine V_iload_n C dX4_remove_36 rfl ?_
  refine V_callSND (nA := 2) (host := "DockTree") C dX4_remove_37 (c_aL C.gp hL 2 _ (by decide) rfl (by omega)) gX4_remove_X8_at_n46 (by decide +kernel) (by decide +kernel) (by decide +kernel) rfl (by decide +kernel) rfl (by decide) (by decide) (Nat.le_of_ble_eq_true rfl) ⟨by omega, by omega⟩ rfl ?_
  rw [aL_pL_ne (by decide)]
  refine V_iconst C dX4_remove_40 ?_
  refine V_isub C dX4_remove_41 ?_
  refine V_callSND (nA := 3) (host := "DockTree") C dX4_remove_42 (c_pL C.gp hL 2 (by decide) (by omega)) gX4_remove_X8_put_n50 (by decide +kernel) (by decide +kernel) (by decide +kernel) rfl (by decide +kernel) rfl (by decide) (by decide) (Nat.le_of_ble_eq_true rfl) ⟨by omega, by omega⟩ rfl ?_
  refine V_iconst C dX4_remove_45 ?_
  refine V_istore C dX4_remove_46 rfl (by decide) ?_
  have h9 := loop 49 0 (by omega) (by omega)
  rw [remP_0] at h9
  exact h9
set_option maxRecDepth 20000 in
theorem ggX4_replace_X8_at : GoodIn wsX4_replace wsX8_at := goodIn_r _ [6] (by decide +kernel) (by decide +kernel)
set_option maxRecDepth 20000 in
theorem gX4_replace_X8_at_n46 : GoodIn wsX4_replace (wsX8_at) := ggX4_replace_X8_at
set_option maxRecDepth 20000 in
theorem ggX4_replace_X8_put : GoodIn wsX4_replace wsX8_put := goodIn_r _ [8] (by decide +kernel) (by decide +kernel)
set_option maxRecDepth 20000 in
theorem gX4_replace_X8_put_n50 : GoodIn wsX4_replace (wsX8_put) := ggX4_replace_X8_put
theorem dX4_replace_0 : decode cX4_replace 0 = .ok (.aload_n 0, 1) := by decide +kernel
theorem dX4_replace_1 : decode cX4_replace 1 = .ok (.getfield 9, 3) := by decide +kernel
theorem dX4_replace_4 : decode cX4_replace 4 = .ok (.iload_n 2, 1) := by decide +kernel
theorem dX4_replace_5 : decode cX4_replace 5 = .ok (.aload_n 0, 1) := by decide +kernel
theorem dX4_replace_6 : decode cX4_replace 6 = .ok (.getfield 9, 3) := by decide +kernel
theorem dX4_replace_9 : decode cX4_replace 9 = .ok (.iload_n 1, 1) := by decide +kernel
theorem dX4_replace_10 : decode cX4_replace 10 = .ok (.invokestatic 46, 3) := by decide +kernel
theorem dX4_replace_13 : decode cX4_replace 13 = .ok (.invokestatic 50, 3) := by decide +kernel
theorem dX4_replace_16 : decode cX4_replace 16 = .ok (.aload_n 0, 1) := by decide +kernel
theorem dX4_replace_17 : decode cX4_replace 17 = .ok (.getfield 15, 3) := by decide +kernel
theorem dX4_replace_20 : decode cX4_replace 20 = .ok (.iload_n 2, 1) := by decide +kernel
theorem dX4_replace_21 : decode cX4_replace 21 = .ok (.aload_n 0, 1) := by decide +kernel
theorem dX4_replace_22 : decode cX4_replace 22 = .ok (.getfield 15, 3) := by decide +kernel
theorem dX4_replace_25 : decode cX4_replace 25 = .ok (.iload_n 1, 1) := by decide +kernel
theorem dX4_replace_26 : decode cX4_replace 26 = .ok (.invokestatic 46, 3) := by decide +kernel
theorem dX4_replace_29 : decode cX4_replace 29 = .ok (.invokestatic 50, 3) := by decide +kernel
theorem dX4_replace_32 : decode cX4_replace 32 = .ok (.aload_n 0, 1) := by decide +kernel
theorem dX4_replace_33 : decode cX4_replace 33 = .ok (.getfield 21, 3) := by decide +kernel
theorem dX4_replace_36 : decode cX4_replace 36 = .ok (.iload_n 2, 1) := by decide +kernel
theorem dX4_replace_37 : decode cX4_replace 37 = .ok (.aload_n 0, 1) := by decide +kernel
theorem dX4_replace_38 : decode cX4_replace 38 = .ok (.getfield 21, 3) := by decide +kernel
theorem dX4_replace_41 : decode cX4_replace 41 = .ok (.iload_n 1, 1) := by decide +kernel
theorem dX4_replace_42 : decode cX4_replace 42 = .ok (.invokestatic 46, 3) := by decide +kernel
theorem dX4_replace_45 : decode cX4_replace 45 = .ok (.invokestatic 50, 3) := by decide +kernel
theorem dX4_replace_48 : decode cX4_replace 48 = .ok (.aload_n 0, 1) := by decide +kernel
theorem dX4_replace_49 : decode cX4_replace 49 = .ok (.getfield 9, 3) := by decide +kernel
theorem dX4_replace_52 : decode cX4_replace 52 = .ok (.iload_n 1, 1) := by decide +kernel
theorem dX4_replace_53 : decode cX4_replace 53 = .ok (.iconst (-1), 1) := by decide +kernel
theorem dX4_replace_54 : decode cX4_replace 54 = .ok (.invokestatic 50, 3) := by decide +kernel
theorem dX4_replace_57 : decode cX4_replace 57 = .ok (.return_, 1) := by decide +kernel
theorem hin_X4_replace_X4 : ∀ w ∈ wsX40, w ∈ wsX4_replace := by decide +kernel
theorem lk_X4_replace_9 : Cond.fieldLink RX4 9 RX4 "holder" "[I" ∈ wsX4_replace := by decide +kernel
theorem lk_X4_replace_15 : Cond.fieldLink RX4 15 RX4 "place" "[I" ∈ wsX4_replace := by decide +kernel
theorem lk_X4_replace_21 : Cond.fieldLink RX4 21 RX4 "weight" "[I" ∈ wsX4_replace := by decide +kernel
theorem c_replace (hG : GP G) (hL : LayS S b) (hB : Bd N L) (hN : 1 ≤ N ∧ N ≤ 1073741824) {t u : Int} (ht : -1073741824 ≤ t ∧ t ≤ 1073741824) (hu : -1073741824 ≤ u ∧ u ≤ 1073741824) : Ct G l yX4_replace wsX4_replace 1 0 0 [.ref b, .int (I32 t), .int (I32 u)] S n (putL mu b L) la (Dt none S n (putL mu b (replF L t u)) la) := by
  have o4 := hL.1
  refine Ct.ofV (cc := cX4_replace) (nL := 3) (ret := none) [some (.ref b), some (.int (I32 t)), some (.int (I32 u))] hG (by decide) rfl (Nat.le_of_ble_eq_true rfl) rfl ?_
  rintro X rfl rfl C hcl hsl E
  refine V_aload_n C dX4_replace_0 rfl ?_
  refine V_getR C 0 dX4_replace_1 o4 rfl hin_X4_replace_X4 (by decide) lk_X4_replace_9 rfl rfl ?_
  refine V_iload_n C dX4_replace_4 rfl ?_
  refine V_aload_n C dX4_replace_5 rfl ?_
  refine V_getR C 0 dX4_replace_6 o4 rfl hin_X4_replace_X4 (by decide) lk_X4_replace_9 rfl rfl ?_
  refine V_iload_n C dX4_replace_9 rfl ?_
  refine V_callSND (nA := 2) (host := "DockTree") C dX4_replace_10 (c_aL C.gp hL 0 _ (by decide) rfl (by omega)) gX4_replace_X8_at_n46 (by decide +kernel) (by decide +kernel) (by decide +kernel) rfl (by decide +kernel) rfl (by decide) (by decide) (Nat.le_of_ble_eq_true rfl) ⟨by omega, by omega⟩ rfl ?_
  refine V_callSND (nA := 3) (host := "DockTree") C dX4_replace_13 (c_pL C.gp hL 0 (by decide) (by omega)) gX4_replace_X8_put_n50 (by decide +kernel) (by decide +kernel) (by decide +kernel) rfl (by decide +kernel) rfl (by decide) (by decide) (Nat.le_of_ble_eq_true rfl) ⟨by omega, by omega⟩ rfl ?_
  refine V_aload_n C dX4_replace_16 rfl ?_
  refine V_getR C 1 dX4_replace_17 o4 rfl hin_X4_replace_X4 (by decide) lk_X4_replace_15 rfl rfl ?_
  refine V_iload_n C dX4_replace_20 rfl ?_
  refine V_aload_n C dX4_replace_21 rfl ?_
  refine V_getR C 1 dX4_replace_22 o4 rfl hin_X4_replace_X4 (by decide) lk_X4_replace_15 rfl rfl ?_
  refine V_iload_n C dX4_replace_25 rfl ?_
  refine V_callSND (nA := 2) (host := "DockTree") C dX4_replace_26 (c_aL C.gp hL 1 _ (by decide) rfl (by omega)) gX4_replace_X8_at_n46 (by decide +kernel) (by decide +kernel) (by decide +kernel) rfl (by decide +kernel) rfl (by decide) (by decide) (Nat.le_of_ble_eq_true rfl) ⟨by omega, by omega⟩ rfl ?_
  rw [aL_pL_ne (by decide)]
  refine V_callSND (nA := 3) (host := "DockTree") C dX4_replace_29 (c_pL C.gp hL 1 (by decide) (by omega)) gX4_replace_X8_put_n50 (by decide +kernel) (by decide +kernel) (by decide +kernel) rfl (by decide +kernel) rfl (by decide) (by decide) (Nat.le_of_ble_eq_true rfl) ⟨by omega, by omega⟩ rfl ?_
  refine V_aload_n C dX4_replace_32 rfl ?_
  refine V_getR C 3 dX4_replace_33 o4 rfl hin_X4_replace_X4 (by decide) lk_X4_replace_21 rfl rfl ?_
  refine V_iload_n C dX4_replace_36 rfl ?_
  refine V_aload_n C dX4_replace_37 rfl ?_
  refine V_getR C 3 dX4_replace_38 o4 rfl hin_X4_replace_X4 (by decide) lk_X4_replace_21 rfl rfl ?_
  refine V_iload_n C dX4_replace_41 rfl ?_
  refine V_callSND (nA := 2) (host := "DockTree") C dX4_replace_42 (c_aL C.gp hL 3 _ (by decide) rfl (by omega)) gX4_replace_X8_at_n46 (by decide +kernel) (by decide +kernel) (by decide +kernel) rfl (by decide +kernel) rfl (by decide) (by decide) (Nat.le_of_ble_eq_true rfl) ⟨by omega, by omega⟩ rfl ?_
  rw [aL_pL_ne (by decide), aL_pL_ne (by decide)]
  refine V_callSND (nA := 3) (host := "DockTree") C dX4_replace_45 (c_pL C.gp hL 3 (by decide) (by omega)) gX4_replace_X8_put_n50 (by decide +kernel) (by decide +kernel) (by decide +kernel) rfl (by decide +kernel) rfl (by decide) (by decide) (Nat.le_of_ble_eq_true rfl) ⟨by omega, by omega⟩ rfl ?_
  refine V_aload_n C dX4_replace_48 rfl ?_
  refine V_getR C 0 dX4_replace_49 o4 rfl hin_X4_replace_X4 (by decide) lk_X4_replace_9 rfl rfl ?_
  refine V_iload_n C dX4_replace_52 rfl ?_
  refine V_iconst C dX4_replace_53 ?_
  refine V_callSND (nA := 3) (host := "DockTree") C dX4_replace_54 (c_pL C.gp hL 0 (by decide) (by omega)) gX4_replace_X8_put_n50 (by decide +kernel) (by decide +kernel) (by decide +kernel) rfl (by decide +kernel) rfl (by decide) (by decide) (Nat.le_of_ble_eq_true rfl) ⟨by omega, by omega⟩ rfl ?_
  refine V_return C E dX4_replace_57 (by omega) (by omega) ?_
  exact Dt_rfl
set_option maxRecDepth 20000 in
theorem ggX4_unused_X8_at : GoodIn wsX4_unused wsX8_at := goodIn_r _ [4] (by decide +kernel) (by decide +kernel)
set_option maxRecDepth 20000 in
theorem gX4_unused_X8_at_n46 : GoodIn wsX4_unused (wsX8_at) := ggX4_unused_X8_at
theorem dX4_unused_0 : decode cX4_unused 0 = .ok (.iload_n 1, 1) := by decide +kernel
theorem dX4_unused_1 : decode cX4_unused 1 = .ok (.istore_n 3, 1) := by decide +kernel
theorem dX4_unused_2 : decode cX4_unused 2 = .ok (.iload_n 3, 1) := by decide +kernel
theorem dX4_unused_3 : decode cX4_unused 3 = .ok (.iload_n 2, 1) := by decide +kernel
theorem dX4_unused_4 : decode cX4_unused 4 = .ok (.if_icmp .ge 22, 3) := by decide +kernel
theorem dX4_unused_7 : decode cX4_unused 7 = .ok (.aload_n 0, 1) := by decide +kernel
theorem dX4_unused_8 : decode cX4_unused 8 = .ok (.getfield 18, 3) := by decide +kernel
theorem dX4_unused_11 : decode cX4_unused 11 = .ok (.iload_n 3, 1) := by decide +kernel
theorem dX4_unused_12 : decode cX4_unused 12 = .ok (.invokestatic 46, 3) := by decide +kernel
theorem dX4_unused_15 : decode cX4_unused 15 = .ok (.ifCond .ne 5, 3) := by decide +kernel
theorem dX4_unused_18 : decode cX4_unused 18 = .ok (.iload_n 3, 1) := by decide +kernel
theorem dX4_unused_19 : decode cX4_unused 19 = .ok (.ireturn, 1) := by decide +kernel
theorem dX4_unused_20 : decode cX4_unused 20 = .ok (.iinc 3 1, 3) := by decide +kernel
theorem dX4_unused_23 : decode cX4_unused 23 = .ok (.goto (-21), 3) := by decide +kernel
theorem dX4_unused_26 : decode cX4_unused 26 = .ok (.iconst (-1), 1) := by decide +kernel
theorem dX4_unused_27 : decode cX4_unused 27 = .ok (.ireturn, 1) := by decide +kernel
theorem hin_X4_unused_X4 : ∀ w ∈ wsX40, w ∈ wsX4_unused := by decide +kernel
theorem lk_X4_unused_18 : Cond.fieldLink RX4 18 RX4 "count" "[I" ∈ wsX4_unused := by decide +kernel
theorem c_unused (hG : GP G) (hL : LayS S b) (hB : Bd N L) (hN : 1 ≤ N ∧ N ≤ 1073741824) {a e : Int} (ha : 0 ≤ a) (hae : a ≤ e) (he : e ≤ 49) : Ct G l yX4_unused wsX4_unused 1 0 0 [.ref b, .int (I32 a), .int (I32 e)] S n (putL mu b L) la (Dt (some (.int (I32 (unuF L a e)))) S n (putL mu b L) la) := by
  have o4 := hL.1
  refine Ct.ofV (cc := cX4_unused) (nL := 4) (ret := (some .int)) [some (.ref b), some (.int (I32 a)), some (.int (I32 e)), none] hG (by decide) rfl (Nat.le_of_ble_eq_true rfl) rfl ?_
  rintro X rfl rfl C hcl hsl E
  have loop : ∀ (m : Nat) (j : Int), 0 ≤ j → j + m = e → unuF L a e = unuG L e m → V X 2 [some (.ref b), some (.int (I32 a)), some (.int (I32 e)), some (.int (I32 j))] [] S n (putL mu b L) la 0 0 := by
    intro m
    induction m with
    | zero =>
      intro j h0 hj hr
      refine V_iload_n C dX4_unused_2 rfl ?_
      refine V_iload_n C dX4_unused_3 rfl ?_
      refine V_icmp_ge C 26 dX4_unused_4 (by decide) (by omega) (by omega) (fun c => ?_) (fun c => ?_)
      · refine V_iconst C dX4_unused_26 ?_
        refine V_ireturn C E dX4_unused_27 (by omega) (by omega) ?_
        rw [hr]; exact Dt_rfl
      · exact absurd c (by omega)
    | succ m ih =>
      intro j h0 hj hr
      have e9 : j = e - (m + 1) := by omega
      have e2 : aL L 2 j = L 2 j := aL_in (by show 0 ≤ j ∧ j < ((49 : Nat) : Int); omega)
      have b2 := hB 2 j
      refine V_iload_n C dX4_unused_2 rfl ?_
      refine V_iload_n C dX4_unused_3 rfl ?_
      refine V_icmp_ge C 26 dX4_unused_4 (by decide) (by omega) (by omega) (fun c => ?_) (fun c => ?_)
      · exact absurd c (by omega)
      · refine V_aload_n C dX4_unused_7 rfl ?_
        refine V_getR C 2 dX4_unused_8 o4 rfl hin_X4_unused_X4 (by decide) lk_X4_unused_18 rfl rfl ?_
        refine V_iload_n C dX4_unused_11 rfl ?_
        refine V_callSND (nA := 2) (host := "DockTree") C dX4_unused_12 (c_aL C.gp hL 2 _ (by decide) rfl (by omega)) gX4_unused_X8_at_n46 (by decide +kernel) (by decide +kernel) (by decide +kernel) rfl (by decide +kernel) rfl (by decide) (by decide) (Nat.le_of_ble_eq_true rfl) ⟨by omega, by omega⟩ rfl ?_
        rw [e2]
        refine V_if_ne C 20 dX4_unused_15 (by decide) (by omega) (fun c2 => ?_) (fun c2 => ?_)
        · refine V_iinc C dX4_unused_20 rfl rfl (by decide) ?_
          refine V_goto C 2 dX4_unused_23 (by decide) ?_
          exact ih (j + 1) (by omega) (by omega) (by rw [hr, unuG, if_neg (by rw [← e9]; exact c2)])
        · refine V_iload_n C dX4_unused_18 rfl ?_
          refine V_ireturn C E dX4_unused_19 (by omega) (by omega) ?_
          rw [hr, unuG, if_pos (by rw [← e9]; exact c2), ← e9]; exact Dt_rfl
  refine V_iload_n C dX4_unused_0 rfl ?_
  refine V_istore_n C dX4_unused_1 rfl (by decide) ?_
  exact loop (e - a).toNat a ha (by omega) rfl
set_option maxRecDepth 20000 in
theorem ggX4_groupOf_X4_unused : GoodIn wsX4_groupOf wsX4_unused := goodIn_r _ [5, 6, 7, 8, 9, 23, 24, 25, 26, 27, 28, 29, 30] (by decide +kernel) (by decide +kernel)
set_option maxRecDepth 20000 in
theorem gX4_groupOf_X4_unused : GoodIn wsX4_groupOf (wsV RX4 110 RX4 yX4_unused wsX4_unused) := goodIn_app (goodIn_of _ (by decide +kernel)) ggX4_groupOf_X4_unused
set_option maxRecDepth 20000 in
theorem ggX4_groupOf_X4_insert : GoodIn wsX4_groupOf wsX4_insert := goodIn_r _ [13, 14, 15, 6, 7, 8, 9, 16, 17, 23, 24, 25, 26, 27, 28, 29, 30] (by decide +kernel) (by decide +kernel)
set_option maxRecDepth 20000 in
theorem gX4_groupOf_X4_insert : GoodIn wsX4_groupOf (wsV RX4 58 RX4 yX4_insert wsX4_insert) := goodIn_app (goodIn_of _ (by decide +kernel)) ggX4_groupOf_X4_insert
set_option maxRecDepth 20000 in
theorem ggX4_groupOf_X4_changeActive : GoodIn wsX4_groupOf wsX4_changeActive := goodIn_r _ [21, 22, 16, 8, 17, 23, 24, 25, 26, 27, 28, 29, 30] (by decide +kernel) (by decide +kernel)
set_option maxRecDepth 20000 in
theorem gX4_groupOf_X4_changeActive : GoodIn wsX4_groupOf (wsV RX4 62 RX4 yX4_changeActive wsX4_changeActive) := goodIn_app (goodIn_of _ (by decide +kernel)) ggX4_groupOf_X4_changeActive
theorem dX4_groupOf_0 : decode cX4_groupOf 0 = .ok (.aload_n 0, 1) := by decide +kernel
theorem dX4_groupOf_1 : decode cX4_groupOf 1 = .ok (.bipush 16, 2) := by decide +kernel
theorem dX4_groupOf_3 : decode cX4_groupOf 3 = .ok (.bipush 32, 2) := by decide +kernel
theorem dX4_groupOf_5 : decode cX4_groupOf 5 = .ok (.invokevirtual 110, 3) := by decide +kernel
theorem dX4_groupOf_8 : decode cX4_groupOf 8 = .ok (.istore_n 2, 1) := by decide +kernel
theorem dX4_groupOf_9 : decode cX4_groupOf 9 = .ok (.aload_n 0, 1) := by decide +kernel
theorem dX4_groupOf_10 : decode cX4_groupOf 10 = .ok (.iload_n 1, 1) := by decide +kernel
theorem dX4_groupOf_11 : decode cX4_groupOf 11 = .ok (.iload_n 2, 1) := by decide +kernel
theorem dX4_groupOf_12 : decode cX4_groupOf 12 = .ok (.iconst 0, 1) := by decide +kernel
theorem dX4_groupOf_13 : decode cX4_groupOf 13 = .ok (.invokevirtual 58, 3) := by decide +kernel
theorem dX4_groupOf_16 : decode cX4_groupOf 16 = .ok (.aload_n 0, 1) := by decide +kernel
theorem dX4_groupOf_17 : decode cX4_groupOf 17 = .ok (.iload_n 2, 1) := by decide +kernel
theorem dX4_groupOf_18 : decode cX4_groupOf 18 = .ok (.iload_n 1, 1) := by decide +kernel
theorem dX4_groupOf_19 : decode cX4_groupOf 19 = .ok (.invokevirtual 62, 3) := by decide +kernel
theorem dX4_groupOf_22 : decode cX4_groupOf 22 = .ok (.iload_n 2, 1) := by decide +kernel
theorem dX4_groupOf_23 : decode cX4_groupOf 23 = .ok (.ireturn, 1) := by decide +kernel
theorem c_groupOf (hG : GP G) (hL : LayS S b) (hB : Bd N L) (hN : 100 ≤ N ∧ N ≤ 1073741000) {p : Int} (hp : -N ≤ p ∧ p ≤ N) : Ct G l yX4_groupOf wsX4_groupOf 2 0 0 [.ref b, .int (I32 p)] S n (putL mu b L) la (Dt (some (.int (I32 (unuF L 16 32)))) S n (putL mu b (grpF L p)) la) := by
  have o4 := hL.1
  have r := unuF_rng L (a := 16) (e := 32) (by omega)
  refine Ct.ofV (cc := cX4_groupOf) (nL := 3) (ret := (some .int)) [some (.ref b), some (.int (I32 p)), none] hG (by decide) rfl (Nat.le_of_ble_eq_true rfl) rfl ?_
  rintro X rfl rfl C hcl hsl E
  refine V_aload_n C dX4_groupOf_0 rfl ?_
  refine V_bipush C dX4_groupOf_1 (by decide +kernel) ?_
  refine V_bipush C dX4_groupOf_3 (by decide +kernel) ?_
  refine V_callVD (nA := 2) C dX4_groupOf_5 (c_unused C.gp hL hB (by omega) (by omega) (by omega) (by omega)) gX4_groupOf_X4_unused rfl o4 rfl (by decide +kernel) rfl (by decide) (by decide) (Nat.le_of_ble_eq_true rfl) ⟨by omega, by omega⟩ rfl ?_
  refine V_istore_n C dX4_groupOf_8 rfl (by decide) ?_
  refine V_aload_n C dX4_groupOf_9 rfl ?_
  refine V_iload_n C dX4_groupOf_10 rfl ?_
  refine V_iload_n C dX4_groupOf_11 rfl ?_
  refine V_iconst C dX4_groupOf_12 ?_
  refine V_callVD (nA := 3) C dX4_groupOf_13 (c_insert C.gp hL hB (by omega) (by omega) (by omega) (by omega)) gX4_groupOf_X4_insert rfl o4 rfl (by decide +kernel) rfl (by decide) (by decide) (Nat.le_of_ble_eq_true rfl) ⟨by omega, by omega⟩ rfl ?_
  refine V_aload_n C dX4_groupOf_16 rfl ?_
  refine V_iload_n C dX4_groupOf_17 rfl ?_
  refine V_iload_n C dX4_groupOf_18 rfl ?_
  refine V_callVD (nA := 2) C dX4_groupOf_19 (c_changeActive C.gp hL (by omega)) gX4_groupOf_X4_changeActive rfl o4 rfl (by decide +kernel) rfl (by decide) (by decide) (Nat.le_of_ble_eq_true rfl) ⟨by omega, by omega⟩ rfl ?_
  refine V_iload_n C dX4_groupOf_22 rfl ?_
  refine V_ireturn C E dX4_groupOf_23 (by omega) (by omega) ?_
  exact Dt_rfl
set_option maxRecDepth 20000 in
theorem ggX4_wrap_X4_unused : GoodIn wsX4_wrap wsX4_unused := goodIn_r _ [7, 8, 9, 10, 11, 30, 31, 32, 33, 34, 35, 36, 37] (by decide +kernel) (by decide +kernel)
set_option maxRecDepth 20000 in
theorem gX4_wrap_X4_unused : GoodIn wsX4_wrap (wsV RX4 110 RX4 yX4_unused wsX4_unused) := goodIn_app (goodIn_of _ (by decide +kernel)) ggX4_wrap_X4_unused
set_option maxRecDepth 20000 in
theorem ggX4_wrap_X4_axisAt : GoodIn wsX4_wrap wsX4_axisAt := goodIn_r _ [14] (by decide +kernel) (by decide +kernel)
set_option maxRecDepth 20000 in
theorem gX4_wrap_X4_axisAt : GoodIn wsX4_wrap (va_wsS RX4 84 yX4_axisAt wsX4_axisAt) := goodIn_app (goodIn_of _ (by decide +kernel)) ggX4_wrap_X4_axisAt
set_option maxRecDepth 20000 in
theorem ggX4_wrap_X8_put : GoodIn wsX4_wrap wsX8_put := goodIn_r _ [16] (by decide +kernel) (by decide +kernel)
set_option maxRecDepth 20000 in
theorem gX4_wrap_X8_put_n50 : GoodIn wsX4_wrap (wsX8_put) := ggX4_wrap_X8_put
set_option maxRecDepth 20000 in
theorem ggX4_wrap_X4_replace : GoodIn wsX4_wrap wsX4_replace := goodIn_r _ [20, 21, 22, 2, 9, 10, 11, 15, 16, 30, 31, 32, 33, 34, 35, 36, 37] (by decide +kernel) (by decide +kernel)
set_option maxRecDepth 20000 in
theorem gX4_wrap_X4_replace : GoodIn wsX4_wrap (wsV RX4 107 RX4 yX4_replace wsX4_replace) := goodIn_app (goodIn_of _ (by decide +kernel)) ggX4_wrap_X4_replace
set_option maxRecDepth 20000 in
theorem ggX4_wrap_X4_insert : GoodIn wsX4_wrap wsX4_insert := goodIn_r _ [26, 21, 22, 8, 9, 10, 11, 15, 16, 30, 31, 32, 33, 34, 35, 36, 37] (by decide +kernel) (by decide +kernel)
set_option maxRecDepth 20000 in
theorem gX4_wrap_X4_insert : GoodIn wsX4_wrap (wsV RX4 58 RX4 yX4_insert wsX4_insert) := goodIn_app (goodIn_of _ (by decide +kernel)) ggX4_wrap_X4_insert
set_option maxRecDepth 20000 in
theorem ggX4_wrap_X4_isBehind : GoodIn wsX4_wrap wsX4_isBehind := goodIn_r _ [29] (by decide +kernel) (by decide +kernel)
set_option maxRecDepth 20000 in
theorem gX4_wrap_X4_isBehind : GoodIn wsX4_wrap (va_wsS RX4 87 yX4_isBehind wsX4_isBehind) := goodIn_app (goodIn_of _ (by decide +kernel)) ggX4_wrap_X4_isBehind
theorem dX4_wrap_0 : decode cX4_wrap 0 = .ok (.aload_n 0, 1) := by decide +kernel
theorem dX4_wrap_1 : decode cX4_wrap 1 = .ok (.bipush 32, 2) := by decide +kernel
theorem dX4_wrap_3 : decode cX4_wrap 3 = .ok (.bipush 47, 2) := by decide +kernel
theorem dX4_wrap_5 : decode cX4_wrap 5 = .ok (.invokevirtual 110, 3) := by decide +kernel
theorem dX4_wrap_8 : decode cX4_wrap 8 = .ok (.istore 4, 2) := by decide +kernel
theorem dX4_wrap_10 : decode cX4_wrap 10 = .ok (.aload_n 0, 1) := by decide +kernel
theorem dX4_wrap_11 : decode cX4_wrap 11 = .ok (.getfield 27, 3) := by decide +kernel
theorem dX4_wrap_14 : decode cX4_wrap 14 = .ok (.iload 4, 2) := by decide +kernel
theorem dX4_wrap_16 : decode cX4_wrap 16 = .ok (.bipush 32, 2) := by decide +kernel
theorem dX4_wrap_18 : decode cX4_wrap 18 = .ok (.isub, 1) := by decide +kernel
theorem dX4_wrap_19 : decode cX4_wrap 19 = .ok (.iload_n 3, 1) := by decide +kernel
theorem dX4_wrap_20 : decode cX4_wrap 20 = .ok (.invokestatic 84, 3) := by decide +kernel
theorem dX4_wrap_23 : decode cX4_wrap 23 = .ok (.invokestatic 50, 3) := by decide +kernel
theorem dX4_wrap_26 : decode cX4_wrap 26 = .ok (.aload_n 0, 1) := by decide +kernel
theorem dX4_wrap_27 : decode cX4_wrap 27 = .ok (.iload_n 1, 1) := by decide +kernel
theorem dX4_wrap_28 : decode cX4_wrap 28 = .ok (.iload 4, 2) := by decide +kernel
theorem dX4_wrap_30 : decode cX4_wrap 30 = .ok (.invokevirtual 107, 3) := by decide +kernel
theorem dX4_wrap_33 : decode cX4_wrap 33 = .ok (.aload_n 0, 1) := by decide +kernel
theorem dX4_wrap_34 : decode cX4_wrap 34 = .ok (.iload_n 1, 1) := by decide +kernel
theorem dX4_wrap_35 : decode cX4_wrap 35 = .ok (.iload 4, 2) := by decide +kernel
theorem dX4_wrap_37 : decode cX4_wrap 37 = .ok (.iconst 0, 1) := by decide +kernel
theorem dX4_wrap_38 : decode cX4_wrap 38 = .ok (.invokevirtual 58, 3) := by decide +kernel
theorem dX4_wrap_41 : decode cX4_wrap 41 = .ok (.aload_n 0, 1) := by decide +kernel
theorem dX4_wrap_42 : decode cX4_wrap 42 = .ok (.iload_n 2, 1) := by decide +kernel
theorem dX4_wrap_43 : decode cX4_wrap 43 = .ok (.iload 4, 2) := by decide +kernel
theorem dX4_wrap_45 : decode cX4_wrap 45 = .ok (.iload_n 3, 1) := by decide +kernel
theorem dX4_wrap_46 : decode cX4_wrap 46 = .ok (.invokestatic 87, 3) := by decide +kernel
theorem dX4_wrap_49 : decode cX4_wrap 49 = .ok (.ifCond .eq 7, 3) := by decide +kernel
theorem dX4_wrap_52 : decode cX4_wrap 52 = .ok (.iconst 1, 1) := by decide +kernel
theorem dX4_wrap_53 : decode cX4_wrap 53 = .ok (.goto 4, 3) := by decide +kernel
theorem dX4_wrap_56 : decode cX4_wrap 56 = .ok (.iconst 0, 1) := by decide +kernel
theorem dX4_wrap_57 : decode cX4_wrap 57 = .ok (.invokevirtual 58, 3) := by decide +kernel
theorem dX4_wrap_60 : decode cX4_wrap 60 = .ok (.aload_n 0, 1) := by decide +kernel
theorem dX4_wrap_61 : decode cX4_wrap 61 = .ok (.getfield 21, 3) := by decide +kernel
theorem dX4_wrap_64 : decode cX4_wrap 64 = .ok (.iload_n 1, 1) := by decide +kernel
theorem dX4_wrap_65 : decode cX4_wrap 65 = .ok (.iconst 1, 1) := by decide +kernel
theorem dX4_wrap_66 : decode cX4_wrap 66 = .ok (.invokestatic 50, 3) := by decide +kernel
theorem dX4_wrap_69 : decode cX4_wrap 69 = .ok (.aload_n 0, 1) := by decide +kernel
theorem dX4_wrap_70 : decode cX4_wrap 70 = .ok (.getfield 21, 3) := by decide +kernel
theorem dX4_wrap_73 : decode cX4_wrap 73 = .ok (.iload_n 2, 1) := by decide +kernel
theorem dX4_wrap_74 : decode cX4_wrap 74 = .ok (.iconst 1, 1) := by decide +kernel
theorem dX4_wrap_75 : decode cX4_wrap 75 = .ok (.invokestatic 50, 3) := by decide +kernel
theorem dX4_wrap_78 : decode cX4_wrap 78 = .ok (.return_, 1) := by decide +kernel
theorem hin_X4_wrap_X4 : ∀ w ∈ wsX40, w ∈ wsX4_wrap := by decide +kernel
theorem lk_X4_wrap_27 : Cond.fieldLink RX4 27 RX4 "axis" "[I" ∈ wsX4_wrap := by decide +kernel
theorem lk_X4_wrap_21 : Cond.fieldLink RX4 21 RX4 "weight" "[I" ∈ wsX4_wrap := by decide +kernel
theorem c_wrap (hG : GP G) (hL : LayS S b) (hB : Bd N L) (hN : 100 ≤ N ∧ N ≤ 1073741000) {t u side : Int} (ht : -N ≤ t ∧ t ≤ N) (hu : -N ≤ u ∧ u ≤ N) (hs : -N ≤ side ∧ side ≤ N) : Ct G l yX4_wrap wsX4_wrap 2 0 0 [.ref b, .int (I32 t), .int (I32 u), .int (I32 side)] S n (putL mu b L) la (Dt none S n (putL mu b (wrapF L t u side)) la) := by
  have o4 := hL.1
  have r := unuF_rng L (a := 32) (e := 47) (by omega)
  have b1 := axF_b side
  have b2 := bhF_b side
  have h1 : Bd N (pL L 5 (unuF L 32 47 - 32) (axF side)) := pL_bd hB _ _ (by omega)
  have h2 := replF_bd h1 (by omega) t (unuF L 32 47)
  have h3 := insF_bd h2 (by omega) t (g := unuF L 32 47) (i := 0) (by omega) (by omega)
  refine Ct.ofV (cc := cX4_wrap) (nL := 5) (ret := none) [some (.ref b), some (.int (I32 t)), some (.int (I32 u)), some (.int (I32 side)), none] hG (by decide) rfl (Nat.le_of_ble_eq_true rfl) rfl ?_
  rintro X rfl rfl C hcl hsl E
  refine V_aload_n C dX4_wrap_0 rfl ?_
  refine V_bipush C dX4_wrap_1 (by decide +kernel) ?_
  refine V_bipush C dX4_wrap_3 (by decide +kernel) ?_
  refine V_callVD (nA := 2) C dX4_wrap_5 (c_unused C.gp hL hB (by omega) (by omega) (by omega) (by omega)) gX4_wrap_X4_unused rfl o4 rfl (by decide +kernel) rfl (by decide) (by decide) (Nat.le_of_ble_eq_true rfl) ⟨by omega, by omega⟩ rfl ?_
  refine V_istore C dX4_wrap_8 rfl (by decide) ?_
  refine V_aload_n C dX4_wrap_10 rfl ?_
  refine V_getR C 5 dX4_wrap_11 o4 rfl hin_X4_wrap_X4 (by decide) lk_X4_wrap_27 rfl rfl ?_
  refine V_iload C dX4_wrap_14 rfl ?_
  refine V_bipush C dX4_wrap_16 (by decide +kernel) ?_
  refine V_isub C dX4_wrap_18 ?_
  refine V_iload_n C dX4_wrap_19 rfl ?_
  refine V_callSD (nA := 1) C dX4_wrap_20 (c_axisAt C.gp (by omega)) gX4_wrap_X4_axisAt rfl (by decide +kernel) rfl (by decide) (by decide) (Nat.le_of_ble_eq_true rfl) ⟨by omega, by omega⟩ rfl ?_
  refine V_callSND (nA := 3) (host := "DockTree") C dX4_wrap_23 (c_pL C.gp hL 5 (by decide) (by omega)) gX4_wrap_X8_put_n50 (by decide +kernel) (by decide +kernel) (by decide +kernel) rfl (by decide +kernel) rfl (by decide) (by decide) (Nat.le_of_ble_eq_true rfl) ⟨by omega, by omega⟩ rfl ?_
  refine V_aload_n C dX4_wrap_26 rfl ?_
  refine V_iload_n C dX4_wrap_27 rfl ?_
  refine V_iload C dX4_wrap_28 rfl ?_
  refine V_callVD (nA := 2) C dX4_wrap_30 (c_replace C.gp hL h1 (by omega) (by omega) (by omega)) gX4_wrap_X4_replace rfl o4 rfl (by decide +kernel) rfl (by decide) (by decide) (Nat.le_of_ble_eq_true rfl) ⟨by omega, by omega⟩ rfl ?_
  refine V_aload_n C dX4_wrap_33 rfl ?_
  refine V_iload_n C dX4_wrap_34 rfl ?_
  refine V_iload C dX4_wrap_35 rfl ?_
  refine V_iconst C dX4_wrap_37 ?_
  refine V_callVD (nA := 3) C dX4_wrap_38 (c_insert C.gp hL h2 (by omega) (by omega) (by omega) (by omega)) gX4_wrap_X4_insert rfl o4 rfl (by decide +kernel) rfl (by decide) (by decide) (Nat.le_of_ble_eq_true rfl) ⟨by omega, by omega⟩ rfl ?_
  refine V_aload_n C dX4_wrap_41 rfl ?_
  refine V_iload_n C dX4_wrap_42 rfl ?_
  refine V_iload C dX4_wrap_43 rfl ?_
  refine V_iload_n C dX4_wrap_45 rfl ?_
  refine V_callSD (nA := 1) C dX4_wrap_46 (c_isBehind C.gp (by omega)) gX4_wrap_X4_isBehind rfl (by decide +kernel) rfl (by decide) (by decide) (Nat.le_of_ble_eq_true rfl) ⟨by omega, by omega⟩ rfl ?_
  have fin : V X 57 [some (.ref b), some (.int (I32 t)), some (.int (I32 u)), some (.int (I32 side)), some (.int (I32 (unuF L 32 47)))] [.int (I32 (bhF side)), .int (I32 (unuF L 32 47)), .int (I32 u), .ref b] S n (putL mu b (insF (replF (pL L 5 (unuF L 32 47 - 32) (axF side)) t (unuF L 32 47)) t (unuF L 32 47) 0)) la 0 0 := by
    refine V_callVD (nA := 3) C dX4_wrap_57 (c_insert C.gp hL h3 (by omega) (by omega) (by omega) (by omega)) gX4_wrap_X4_insert rfl o4 rfl (by decide +kernel) rfl (by decide) (by decide) (Nat.le_of_ble_eq_true rfl) ⟨by omega, by omega⟩ rfl ?_
    refine V_aload_n C dX4_wrap_60 rfl ?_
    refine V_getR C 3 dX4_wrap_61 o4 rfl hin_X4_wrap_X4 (by decide) lk_X4_wrap_21 rfl rfl ?_
    refine V_iload_n C dX4_wrap_64 rfl ?_
    refine V_iconst C dX4_wrap_65 ?_
    refine V_callSND (nA := 3) (host := "DockTree") C dX4_wrap_66 (c_pL C.gp hL 3 (by decide) (by omega)) gX4_wrap_X8_put_n50 (by decide +kernel) (by decide +kernel) (by decide +kernel) rfl (by decide +kernel) rfl (by decide) (by decide) (Nat.le_of_ble_eq_true rfl) ⟨by omega, by omega⟩ rfl ?_
    refine V_aload_n C dX4_wrap_69 rfl ?_
    refine V_getR C 3 dX4_wrap_70 o4 rfl hin_X4_wrap_X4 (by decide) lk_X4_wrap_21 rfl rfl ?_
    refine V_iload_n C dX4_wrap_73 rfl ?_
    refine V_iconst C dX4_wrap_74 ?_
    refine V_callSND (nA := 3) (host := "DockTree") C dX4_wrap_75 (c_pL C.gp hL 3 (by decide) (by omega)) gX4_wrap_X8_put_n50 (by decide +kernel) (by decide +kernel) (by decide +kernel) rfl (by decide +kernel) rfl (by decide) (by decide) (Nat.le_of_ble_eq_true rfl) ⟨by omega, by omega⟩ rfl ?_
    refine V_return C E dX4_wrap_78 (by omega) (by omega) ?_
    exact Dt_rfl
  refine V_if_eq C 56 dX4_wrap_49 (by decide) (by omega) (fun c => ?_) (fun c => ?_)
  · refine V_iconst C dX4_wrap_56 ?_
    rw [c] at fin
    exact fin
  · refine V_iconst C dX4_wrap_52 ?_
    refine V_goto C 57 dX4_wrap_53 (by decide) ?_
    rw [show bhF side = 1 by omega] at fin
    exact fin
set_option maxRecDepth 20000 in
theorem ggX4_putBeside_X8_at : GoodIn wsX4_putBeside wsX8_at := goodIn_r _ [6] (by decide +kernel) (by decide +kernel)
set_option maxRecDepth 20000 in
theorem gX4_putBeside_X8_at_n46 : GoodIn wsX4_putBeside (wsX8_at) := ggX4_putBeside_X8_at
set_option maxRecDepth 20000 in
theorem ggX4_putBeside_X8_isSplit : GoodIn wsX4_putBeside wsX8_isSplit := goodIn_r _ [8] (by decide +kernel) (by decide +kernel)
set_option maxRecDepth 20000 in
theorem gX4_putBeside_X8_isSplit_n77 : GoodIn wsX4_putBeside (wsX8_isSplit) := ggX4_putBeside_X8_isSplit
set_option maxRecDepth 20000 in
theorem ggX4_putBeside_X4_axisOf : GoodIn wsX4_putBeside wsX4_axisOf := goodIn_r _ [13, 14, 4, 5, 6, 40, 41, 42, 43, 44, 45, 46, 47] (by decide +kernel) (by decide +kernel)
set_option maxRecDepth 20000 in
theorem gX4_putBeside_X4_axisOf : GoodIn wsX4_putBeside (wsV RX4 81 RX4 yX4_axisOf wsX4_axisOf) := goodIn_app (goodIn_of _ (by decide +kernel)) ggX4_putBeside_X4_axisOf
set_option maxRecDepth 20000 in
theorem ggX4_putBeside_X4_axisAt : GoodIn wsX4_putBeside wsX4_axisAt := goodIn_r _ [17] (by decide +kernel) (by decide +kernel)
set_option maxRecDepth 20000 in
theorem gX4_putBeside_X4_axisAt : GoodIn wsX4_putBeside (va_wsS RX4 84 yX4_axisAt wsX4_axisAt) := goodIn_app (goodIn_of _ (by decide +kernel)) ggX4_putBeside_X4_axisAt
set_option maxRecDepth 20000 in
theorem ggX4_putBeside_X4_isBehind : GoodIn wsX4_putBeside wsX4_isBehind := goodIn_r _ [20] (by decide +kernel) (by decide +kernel)
set_option maxRecDepth 20000 in
theorem gX4_putBeside_X4_isBehind : GoodIn wsX4_putBeside (va_wsS RX4 87 yX4_isBehind wsX4_isBehind) := goodIn_app (goodIn_of _ (by decide +kernel)) ggX4_putBeside_X4_isBehind
set_option maxRecDepth 20000 in
theorem ggX4_putBeside_X4_insert : GoodIn wsX4_putBeside wsX4_insert := goodIn_r _ [24, 1, 2, 25, 4, 5, 6, 26, 27, 40, 41, 42, 43, 44, 45, 46, 47] (by decide +kernel) (by decide +kernel)
set_option maxRecDepth 20000 in
theorem gX4_putBeside_X4_insert : GoodIn wsX4_putBeside (wsV RX4 58 RX4 yX4_insert wsX4_insert) := goodIn_app (goodIn_of _ (by decide +kernel)) ggX4_putBeside_X4_insert
set_option maxRecDepth 20000 in
theorem ggX4_putBeside_X8_put : GoodIn wsX4_putBeside wsX8_put := goodIn_r _ [27] (by decide +kernel) (by decide +kernel)
set_option maxRecDepth 20000 in
theorem gX4_putBeside_X8_put_n50 : GoodIn wsX4_putBeside (wsX8_put) := ggX4_putBeside_X8_put
set_option maxRecDepth 20000 in
theorem ggX4_putBeside_X4_wrap : GoodIn wsX4_putBeside wsX4_wrap := goodIn_r _ [31, 14, 3, 32, 33, 34, 12, 35, 25, 4, 5, 6, 15, 16, 17, 26, 27, 36, 37, 38, 39, 1, 2, 21, 22, 23, 24, 18, 19, 20, 40, 41, 42, 43, 44, 45, 46, 47] (by decide +kernel) (by decide +kernel)
set_option maxRecDepth 20000 in
theorem gX4_putBeside_X4_wrap : GoodIn wsX4_putBeside (wsV RX4 90 RX4 yX4_wrap wsX4_wrap) := goodIn_app (goodIn_of _ (by decide +kernel)) ggX4_putBeside_X4_wrap
theorem dX4_putBeside_0 : decode cX4_putBeside 0 = .ok (.aload_n 0, 1) := by decide +kernel
theorem dX4_putBeside_1 : decode cX4_putBeside 1 = .ok (.getfield 9, 3) := by decide +kernel
theorem dX4_putBeside_4 : decode cX4_putBeside 4 = .ok (.iload_n 2, 1) := by decide +kernel
theorem dX4_putBeside_5 : decode cX4_putBeside 5 = .ok (.invokestatic 46, 3) := by decide +kernel
theorem dX4_putBeside_8 : decode cX4_putBeside 8 = .ok (.istore 4, 2) := by decide +kernel
theorem dX4_putBeside_10 : decode cX4_putBeside 10 = .ok (.iload 4, 2) := by decide +kernel
theorem dX4_putBeside_12 : decode cX4_putBeside 12 = .ok (.invokestatic 77, 3) := by decide +kernel
theorem dX4_putBeside_15 : decode cX4_putBeside 15 = .ok (.ifCond .eq 63, 3) := by decide +kernel
theorem dX4_putBeside_18 : decode cX4_putBeside 18 = .ok (.aload_n 0, 1) := by decide +kernel
theorem dX4_putBeside_19 : decode cX4_putBeside 19 = .ok (.iload 4, 2) := by decide +kernel
theorem dX4_putBeside_21 : decode cX4_putBeside 21 = .ok (.invokevirtual 81, 3) := by decide +kernel
theorem dX4_putBeside_24 : decode cX4_putBeside 24 = .ok (.iload_n 3, 1) := by decide +kernel
theorem dX4_putBeside_25 : decode cX4_putBeside 25 = .ok (.invokestatic 84, 3) := by decide +kernel
theorem dX4_putBeside_28 : decode cX4_putBeside 28 = .ok (.if_icmp .ne 50, 3) := by decide +kernel
theorem dX4_putBeside_31 : decode cX4_putBeside 31 = .ok (.aload_n 0, 1) := by decide +kernel
theorem dX4_putBeside_32 : decode cX4_putBeside 32 = .ok (.iload_n 1, 1) := by decide +kernel
theorem dX4_putBeside_33 : decode cX4_putBeside 33 = .ok (.iload 4, 2) := by decide +kernel
theorem dX4_putBeside_35 : decode cX4_putBeside 35 = .ok (.aload_n 0, 1) := by decide +kernel
theorem dX4_putBeside_36 : decode cX4_putBeside 36 = .ok (.getfield 15, 3) := by decide +kernel
theorem dX4_putBeside_39 : decode cX4_putBeside 39 = .ok (.iload_n 2, 1) := by decide +kernel
theorem dX4_putBeside_40 : decode cX4_putBeside 40 = .ok (.invokestatic 46, 3) := by decide +kernel
theorem dX4_putBeside_43 : decode cX4_putBeside 43 = .ok (.iload_n 3, 1) := by decide +kernel
theorem dX4_putBeside_44 : decode cX4_putBeside 44 = .ok (.invokestatic 87, 3) := by decide +kernel
theorem dX4_putBeside_47 : decode cX4_putBeside 47 = .ok (.ifCond .eq 7, 3) := by decide +kernel
theorem dX4_putBeside_50 : decode cX4_putBeside 50 = .ok (.iconst 1, 1) := by decide +kernel
theorem dX4_putBeside_51 : decode cX4_putBeside 51 = .ok (.goto 4, 3) := by decide +kernel
theorem dX4_putBeside_54 : decode cX4_putBeside 54 = .ok (.iconst 0, 1) := by decide +kernel
theorem dX4_putBeside_55 : decode cX4_putBeside 55 = .ok (.iadd, 1) := by decide +kernel
theorem dX4_putBeside_56 : decode cX4_putBeside 56 = .ok (.invokevirtual 58, 3) := by decide +kernel
theorem dX4_putBeside_59 : decode cX4_putBeside 59 = .ok (.aload_n 0, 1) := by decide +kernel
theorem dX4_putBeside_60 : decode cX4_putBeside 60 = .ok (.getfield 21, 3) := by decide +kernel
theorem dX4_putBeside_63 : decode cX4_putBeside 63 = .ok (.iload_n 1, 1) := by decide +kernel
theorem dX4_putBeside_64 : decode cX4_putBeside 64 = .ok (.aload_n 0, 1) := by decide +kernel
theorem dX4_putBeside_65 : decode cX4_putBeside 65 = .ok (.getfield 21, 3) := by decide +kernel
theorem dX4_putBeside_68 : decode cX4_putBeside 68 = .ok (.iload_n 2, 1) := by decide +kernel
theorem dX4_putBeside_69 : decode cX4_putBeside 69 = .ok (.invokestatic 46, 3) := by decide +kernel
theorem dX4_putBeside_72 : decode cX4_putBeside 72 = .ok (.invokestatic 50, 3) := by decide +kernel
theorem dX4_putBeside_75 : decode cX4_putBeside 75 = .ok (.goto 10, 3) := by decide +kernel
theorem dX4_putBeside_78 : decode cX4_putBeside 78 = .ok (.aload_n 0, 1) := by decide +kernel
theorem dX4_putBeside_79 : decode cX4_putBeside 79 = .ok (.iload_n 2, 1) := by decide +kernel
theorem dX4_putBeside_80 : decode cX4_putBeside 80 = .ok (.iload_n 1, 1) := by decide +kernel
theorem dX4_putBeside_81 : decode cX4_putBeside 81 = .ok (.iload_n 3, 1) := by decide +kernel
theorem dX4_putBeside_82 : decode cX4_putBeside 82 = .ok (.invokevirtual 90, 3) := by decide +kernel
theorem dX4_putBeside_85 : decode cX4_putBeside 85 = .ok (.return_, 1) := by decide +kernel
theorem hin_X4_putBeside_X4 : ∀ w ∈ wsX40, w ∈ wsX4_putBeside := by decide +kernel
theorem lk_X4_putBeside_9 : Cond.fieldLink RX4 9 RX4 "holder" "[I" ∈ wsX4_putBeside := by decide +kernel
theorem lk_X4_putBeside_15 : Cond.fieldLink RX4 15 RX4 "place" "[I" ∈ wsX4_putBeside := by decide +kernel
theorem lk_X4_putBeside_21 : Cond.fieldLink RX4 21 RX4 "weight" "[I" ∈ wsX4_putBeside := by decide +kernel
theorem c_putBeside (hG : GP G) (hL : LayS S b) (hB : Bd N L) (hN : 100 ≤ N ∧ N ≤ 1073741000) {t u side : Int} (ht : -N ≤ t ∧ t ≤ N) (hu : -N ≤ u ∧ u ≤ N) (hs : -N ≤ side ∧ side ≤ N) : Ct G l yX4_putBeside wsX4_putBeside 3 0 0 [.ref b, .int (I32 t), .int (I32 u), .int (I32 side)] S n (putL mu b L) la (Dt none S n (putL mu b (pbF L t u side)) la) := by
  have o4 := hL.1
  have b0 := aL_bd hB (by omega) 0 u
  have b1 := aL_bd hB (by omega) 1 u
  have b2 := bhF_b side
  have b3 := axF_b side
  have b4 := spF_b (aL L 0 u)
  have b5 := aL_bd hB (by omega) 5 (aL L 0 u - 32)
  refine Ct.ofV (cc := cX4_putBeside) (nL := 5) (ret := none) [some (.ref b), some (.int (I32 t)), some (.int (I32 u)), some (.int (I32 side)), none] hG (by decide) rfl (Nat.le_of_ble_eq_true rfl) rfl ?_
  rintro X rfl rfl C hcl hsl E
  have other : pbF L t u side = wrapF L u t side → V X 78 [some (.ref b), some (.int (I32 t)), some (.int (I32 u)), some (.int (I32 side)), some (.int (I32 (aL L 0 u)))] [] S n (putL mu b L) la 0 0 := by
    intro h9
    refine V_aload_n C dX4_putBeside_78 rfl ?_
    refine V_iload_n C dX4_putBeside_79 rfl ?_
    refine V_iload_n C dX4_putBeside_80 rfl ?_
    refine V_iload_n C dX4_putBeside_81 rfl ?_
    refine V_callVD (nA := 3) C dX4_putBeside_82 (c_wrap C.gp hL hB hN hu ht hs) gX4_putBeside_X4_wrap rfl o4 rfl (by decide +kernel) rfl (by decide) (by decide) (Nat.le_of_ble_eq_true rfl) ⟨by omega, by omega⟩ rfl ?_
    refine V_return C E dX4_putBeside_85 (by omega) (by omega) ?_
    rw [h9]
    exact Dt_rfl
  refine V_aload_n C dX4_putBeside_0 rfl ?_
  refine V_getR C 0 dX4_putBeside_1 o4 rfl hin_X4_putBeside_X4 (by decide) lk_X4_putBeside_9 rfl rfl ?_
  refine V_iload_n C dX4_putBeside_4 rfl ?_
  refine V_callSND (nA := 2) (host := "DockTree") C dX4_putBeside_5 (c_aL C.gp hL 0 _ (by decide) rfl (by omega)) gX4_putBeside_X8_at_n46 (by decide +kernel) (by decide +kernel) (by decide +kernel) rfl (by decide +kernel) rfl (by decide) (by decide) (Nat.le_of_ble_eq_true rfl) ⟨by omega, by omega⟩ rfl ?_
  refine V_istore C dX4_putBeside_8 rfl (by decide) ?_
  refine V_iload C dX4_putBeside_10 rfl ?_
  refine V_callSND (nA := 1) (host := "DockTree") C dX4_putBeside_12 (c_isSplit C.gp (by omega)) gX4_putBeside_X8_isSplit_n77 (by decide +kernel) (by decide +kernel) (by decide +kernel) rfl (by decide +kernel) rfl (by decide) (by decide) (Nat.le_of_ble_eq_true rfl) ⟨by omega, by omega⟩ rfl ?_
  refine V_if_eq C 78 dX4_putBeside_15 (by decide) (by omega) (fun c => ?_) (fun c => ?_)
  · exact other (by rw [pbF, if_neg (fun q => spF_1.mpr q.1 c)])
  · refine V_aload_n C dX4_putBeside_18 rfl ?_
    refine V_iload C dX4_putBeside_19 rfl ?_
    refine V_callVD (nA := 1) C dX4_putBeside_21 (c_axisOf C.gp hL (by omega)) gX4_putBeside_X4_axisOf rfl o4 rfl (by decide +kernel) rfl (by decide) (by decide) (Nat.le_of_ble_eq_true rfl) ⟨by omega, by omega⟩ rfl ?_
    refine V_iload_n C dX4_putBeside_24 rfl ?_
    refine V_callSD (nA := 1) C dX4_putBeside_25 (c_axisAt C.gp (by omega)) gX4_putBeside_X4_axisAt rfl (by decide +kernel) rfl (by decide) (by decide) (Nat.le_of_ble_eq_true rfl) ⟨by omega, by omega⟩ rfl ?_
    refine V_icmp_ne C 78 dX4_putBeside_28 (by decide) (by omega) (by omega) (fun c2 => ?_) (fun c2 => ?_)
    · exact other (by rw [pbF, if_neg (fun q => c2 q.2)])
    · have e9 : pbF L t u side = pL (insF L t (aL L 0 u) (aL L 1 u + bhF side)) 3 t (aL L 3 u) := by rw [pbF, if_pos ⟨spF_1.mp c, c2⟩]
      have fin : V X 55 [some (.ref b), some (.int (I32 t)), some (.int (I32 u)), some (.int (I32 side)), some (.int (I32 (aL L 0 u)))] [.int (I32 (bhF side)), .int (I32 (aL L 1 u)), .int (I32 (aL L 0 u)), .int (I32 t), .ref b] S n (putL mu b L) la 0 0 := by
        refine V_iadd C dX4_putBeside_55 ?_
        refine V_callVD (nA := 3) C dX4_putBeside_56 (c_insert C.gp hL hB (by omega) (by omega) (by omega) (by omega)) gX4_putBeside_X4_insert rfl o4 rfl (by decide +kernel) rfl (by decide) (by decide) (Nat.le_of_ble_eq_true rfl) ⟨by omega, by omega⟩ rfl ?_
        refine V_aload_n C dX4_putBeside_59 rfl ?_
        refine V_getR C 3 dX4_putBeside_60 o4 rfl hin_X4_putBeside_X4 (by decide) lk_X4_putBeside_21 rfl rfl ?_
        refine V_iload_n C dX4_putBeside_63 rfl ?_
        refine V_aload_n C dX4_putBeside_64 rfl ?_
        refine V_getR C 3 dX4_putBeside_65 o4 rfl hin_X4_putBeside_X4 (by decide) lk_X4_putBeside_21 rfl rfl ?_
        refine V_iload_n C dX4_putBeside_68 rfl ?_
        refine V_callSND (nA := 2) (host := "DockTree") C dX4_putBeside_69 (c_aL C.gp hL 3 _ (by decide) rfl (by omega)) gX4_putBeside_X8_at_n46 (by decide +kernel) (by decide +kernel) (by decide +kernel) rfl (by decide +kernel) rfl (by decide) (by decide) (Nat.le_of_ble_eq_true rfl) ⟨by omega, by omega⟩ rfl ?_
        rw [show aL (insF L t (aL L 0 u) (aL L 1 u + bhF side)) 3 u = aL L 3 u by rw [insF, aL_pL_ne (by decide), aL_pL_ne (by decide), aL_pL_ne (by decide), aL_insP _ _ _ _ (by decide)]]
        refine V_callSND (nA := 3) (host := "DockTree") C dX4_putBeside_72 (c_pL C.gp hL 3 (by decide) (by omega)) gX4_putBeside_X8_put_n50 (by decide +kernel) (by decide +kernel) (by decide +kernel) rfl (by decide +kernel) rfl (by decide) (by decide) (Nat.le_of_ble_eq_true rfl) ⟨by omega, by omega⟩ rfl ?_
        refine V_goto C 85 dX4_putBeside_75 (by decide) ?_
        refine V_return C E dX4_putBeside_85 (by omega) (by omega) ?_
        rw [e9]
        exact Dt_rfl
      refine V_aload_n C dX4_putBeside_31 rfl ?_
      refine V_iload_n C dX4_putBeside_32 rfl ?_
      refine V_iload C dX4_putBeside_33 rfl ?_
      refine V_aload_n C dX4_putBeside_35 rfl ?_
      refine V_getR C 1 dX4_putBeside_36 o4 rfl hin_X4_putBeside_X4 (by decide) lk_X4_putBeside_15 rfl rfl ?_
      refine V_iload_n C dX4_putBeside_39 rfl ?_
      refine V_callSND (nA := 2) (host := "DockTree") C dX4_putBeside_40 (c_aL C.gp hL 1 _ (by decide) rfl (by omega)) gX4_putBeside_X8_at_n46 (by decide +kernel) (by decide +kernel) (by decide +kernel) rfl (by decide +kernel) rfl (by decide) (by decide) (Nat.le_of_ble_eq_true rfl) ⟨by omega, by omega⟩ rfl ?_
      refine V_iload_n C dX4_putBeside_43 rfl ?_
      refine V_callSD (nA := 1) C dX4_putBeside_44 (c_isBehind C.gp (by omega)) gX4_putBeside_X4_isBehind rfl (by decide +kernel) rfl (by decide) (by decide) (Nat.le_of_ble_eq_true rfl) ⟨by omega, by omega⟩ rfl ?_
      refine V_if_eq C 54 dX4_putBeside_47 (by decide) (by omega) (fun c3 => ?_) (fun c3 => ?_)
      · refine V_iconst C dX4_putBeside_54 ?_
        rw [c3] at fin
        exact fin
      · refine V_iconst C dX4_putBeside_50 ?_
        refine V_goto C 55 dX4_putBeside_51 (by decide) ?_
        rw [show bhF side = 1 by omega] at fin
        exact fin
set_option maxRecDepth 20000 in
theorem ggX4_takeOutGroup_X8_at : GoodIn wsX4_takeOutGroup wsX8_at := goodIn_r _ [5] (by decide +kernel) (by decide +kernel)
set_option maxRecDepth 20000 in
theorem gX4_takeOutGroup_X8_at_n46 : GoodIn wsX4_takeOutGroup (wsX8_at) := ggX4_takeOutGroup_X8_at
set_option maxRecDepth 20000 in
theorem ggX4_takeOutGroup_X4_remove : GoodIn wsX4_takeOutGroup wsX4_remove := goodIn_r _ [10, 1, 11, 2, 3, 4, 5, 12, 13, 25, 26, 27, 28, 29, 30, 31, 32] (by decide +kernel) (by decide +kernel)
set_option maxRecDepth 20000 in
theorem gX4_takeOutGroup_X4_remove : GoodIn wsX4_takeOutGroup (wsV RX4 93 RX4 yX4_remove wsX4_remove) := goodIn_app (goodIn_of _ (by decide +kernel)) ggX4_takeOutGroup_X4_remove
set_option maxRecDepth 20000 in
theorem ggX4_takeOutGroup_X8_isSplit : GoodIn wsX4_takeOutGroup wsX8_isSplit := goodIn_r _ [15] (by decide +kernel) (by decide +kernel)
set_option maxRecDepth 20000 in
theorem gX4_takeOutGroup_X8_isSplit_n77 : GoodIn wsX4_takeOutGroup (wsX8_isSplit) := ggX4_takeOutGroup_X8_isSplit
set_option maxRecDepth 20000 in
theorem ggX4_takeOutGroup_X4_memberAt : GoodIn wsX4_takeOutGroup wsX4_memberAt := goodIn_r _ [19, 1, 11, 3, 4, 5, 25, 26, 27, 28, 29, 30, 31, 32] (by decide +kernel) (by decide +kernel)
set_option maxRecDepth 20000 in
theorem gX4_takeOutGroup_X4_memberAt : GoodIn wsX4_takeOutGroup (wsV RX4 73 RX4 yX4_memberAt wsX4_memberAt) := goodIn_app (goodIn_of _ (by decide +kernel)) ggX4_takeOutGroup_X4_memberAt
set_option maxRecDepth 20000 in
theorem ggX4_takeOutGroup_X4_replace : GoodIn wsX4_takeOutGroup wsX4_replace := goodIn_r _ [23, 1, 11, 24, 3, 4, 5, 12, 13, 25, 26, 27, 28, 29, 30, 31, 32] (by decide +kernel) (by decide +kernel)
set_option maxRecDepth 20000 in
theorem gX4_takeOutGroup_X4_replace : GoodIn wsX4_takeOutGroup (wsV RX4 107 RX4 yX4_replace wsX4_replace) := goodIn_app (goodIn_of _ (by decide +kernel)) ggX4_takeOutGroup_X4_replace
theorem dX4_takeOutGroup_0 : decode cX4_takeOutGroup 0 = .ok (.aload_n 0, 1) := by decide +kernel
theorem dX4_takeOutGroup_1 : decode cX4_takeOutGroup 1 = .ok (.getfield 9, 3) := by decide +kernel
theorem dX4_takeOutGroup_4 : decode cX4_takeOutGroup 4 = .ok (.iload_n 1, 1) := by decide +kernel
theorem dX4_takeOutGroup_5 : decode cX4_takeOutGroup 5 = .ok (.invokestatic 46, 3) := by decide +kernel
theorem dX4_takeOutGroup_8 : decode cX4_takeOutGroup 8 = .ok (.istore_n 2, 1) := by decide +kernel
theorem dX4_takeOutGroup_9 : decode cX4_takeOutGroup 9 = .ok (.aload_n 0, 1) := by decide +kernel
theorem dX4_takeOutGroup_10 : decode cX4_takeOutGroup 10 = .ok (.iload_n 1, 1) := by decide +kernel
theorem dX4_takeOutGroup_11 : decode cX4_takeOutGroup 11 = .ok (.invokevirtual 93, 3) := by decide +kernel
theorem dX4_takeOutGroup_14 : decode cX4_takeOutGroup 14 = .ok (.iload_n 2, 1) := by decide +kernel
theorem dX4_takeOutGroup_15 : decode cX4_takeOutGroup 15 = .ok (.invokestatic 77, 3) := by decide +kernel
theorem dX4_takeOutGroup_18 : decode cX4_takeOutGroup 18 = .ok (.ifCond .eq 33, 3) := by decide +kernel
theorem dX4_takeOutGroup_21 : decode cX4_takeOutGroup 21 = .ok (.aload_n 0, 1) := by decide +kernel
theorem dX4_takeOutGroup_22 : decode cX4_takeOutGroup 22 = .ok (.getfield 18, 3) := by decide +kernel
theorem dX4_takeOutGroup_25 : decode cX4_takeOutGroup 25 = .ok (.iload_n 2, 1) := by decide +kernel
theorem dX4_takeOutGroup_26 : decode cX4_takeOutGroup 26 = .ok (.invokestatic 46, 3) := by decide +kernel
theorem dX4_takeOutGroup_29 : decode cX4_takeOutGroup 29 = .ok (.iconst 1, 1) := by decide +kernel
theorem dX4_takeOutGroup_30 : decode cX4_takeOutGroup 30 = .ok (.if_icmp .ne 21, 3) := by decide +kernel
theorem dX4_takeOutGroup_33 : decode cX4_takeOutGroup 33 = .ok (.aload_n 0, 1) := by decide +kernel
theorem dX4_takeOutGroup_34 : decode cX4_takeOutGroup 34 = .ok (.iload_n 2, 1) := by decide +kernel
theorem dX4_takeOutGroup_35 : decode cX4_takeOutGroup 35 = .ok (.iconst 0, 1) := by decide +kernel
theorem dX4_takeOutGroup_36 : decode cX4_takeOutGroup 36 = .ok (.invokevirtual 73, 3) := by decide +kernel
theorem dX4_takeOutGroup_39 : decode cX4_takeOutGroup 39 = .ok (.istore_n 3, 1) := by decide +kernel
theorem dX4_takeOutGroup_40 : decode cX4_takeOutGroup 40 = .ok (.aload_n 0, 1) := by decide +kernel
theorem dX4_takeOutGroup_41 : decode cX4_takeOutGroup 41 = .ok (.iload_n 3, 1) := by decide +kernel
theorem dX4_takeOutGroup_42 : decode cX4_takeOutGroup 42 = .ok (.invokevirtual 93, 3) := by decide +kernel
theorem dX4_takeOutGroup_45 : decode cX4_takeOutGroup 45 = .ok (.aload_n 0, 1) := by decide +kernel
theorem dX4_takeOutGroup_46 : decode cX4_takeOutGroup 46 = .ok (.iload_n 2, 1) := by decide +kernel
theorem dX4_takeOutGroup_47 : decode cX4_takeOutGroup 47 = .ok (.iload_n 3, 1) := by decide +kernel
theorem dX4_takeOutGroup_48 : decode cX4_takeOutGroup 48 = .ok (.invokevirtual 107, 3) := by decide +kernel
theorem dX4_takeOutGroup_51 : decode cX4_takeOutGroup 51 = .ok (.return_, 1) := by decide +kernel
theorem hin_X4_takeOutGroup_X4 : ∀ w ∈ wsX40, w ∈ wsX4_takeOutGroup := by decide +kernel
theorem lk_X4_takeOutGroup_9 : Cond.fieldLink RX4 9 RX4 "holder" "[I" ∈ wsX4_takeOutGroup := by decide +kernel
theorem lk_X4_takeOutGroup_18 : Cond.fieldLink RX4 18 RX4 "count" "[I" ∈ wsX4_takeOutGroup := by decide +kernel
theorem c_takeOutGroup (hG : GP G) (hL : LayS S b) (hB : Bd N L) (hN : 100 ≤ N ∧ N ≤ 1073740900) {t : Int} (ht : -N ≤ t ∧ t ≤ N) : Ct G l yX4_takeOutGroup wsX4_takeOutGroup 2 0 0 [.ref b, .int (I32 t)] S n (putL mu b L) la (Dt none S n (putL mu b (togF L t)) la) := by
  have o4 := hL.1
  have b0 := aL_bd hB (by omega) 0 t
  have hB2 := remF_bd hB (by omega) t
  have b4 := spF_b (aL L 0 t)
  have b5 := aL_bd hB2 (by omega) 2 (aL L 0 t)
  have r := mbrF_rng (remF L t) (aL L 0 t) 0
  have hB3 := remF_bd hB2 (by omega) (mbrF (remF L t) (aL L 0 t) 0)
  refine Ct.ofV (cc := cX4_takeOutGroup) (nL := 4) (ret := none) [some (.ref b), some (.int (I32 t)), none, none] hG (by decide) rfl (Nat.le_of_ble_eq_true rfl) rfl ?_
  rintro X rfl rfl C hcl hsl E
  refine V_aload_n C dX4_takeOutGroup_0 rfl ?_
  refine V_getR C 0 dX4_takeOutGroup_1 o4 rfl hin_X4_takeOutGroup_X4 (by decide) lk_X4_takeOutGroup_9 rfl rfl ?_
  refine V_iload_n C dX4_takeOutGroup_4 rfl ?_
  refine V_callSND (nA := 2) (host := "DockTree") C dX4_takeOutGroup_5 (c_aL C.gp hL 0 _ (by decide) rfl (by omega)) gX4_takeOutGroup_X8_at_n46 (by decide +kernel) (by decide +kernel) (by decide +kernel) rfl (by decide +kernel) rfl (by decide) (by decide) (Nat.le_of_ble_eq_true rfl) ⟨by omega, by omega⟩ rfl ?_
  refine V_istore_n C dX4_takeOutGroup_8 rfl (by decide) ?_
  refine V_aload_n C dX4_takeOutGroup_9 rfl ?_
  refine V_iload_n C dX4_takeOutGroup_10 rfl ?_
  refine V_callVD (nA := 1) C dX4_takeOutGroup_11 (c_remove C.gp hL hB (by omega) (by omega)) gX4_takeOutGroup_X4_remove rfl o4 rfl (by decide +kernel) rfl (by decide) (by decide) (Nat.le_of_ble_eq_true rfl) ⟨by omega, by omega⟩ rfl ?_
  refine V_iload_n C dX4_takeOutGroup_14 rfl ?_
  refine V_callSND (nA := 1) (host := "DockTree") C dX4_takeOutGroup_15 (c_isSplit C.gp (by omega)) gX4_takeOutGroup_X8_isSplit_n77 (by decide +kernel) (by decide +kernel) (by decide +kernel) rfl (by decide +kernel) rfl (by decide) (by decide) (Nat.le_of_ble_eq_true rfl) ⟨by omega, by omega⟩ rfl ?_
  refine V_if_eq C 51 dX4_takeOutGroup_18 (by decide) (by omega) (fun c => ?_) (fun c => ?_)
  · refine V_return C E dX4_takeOutGroup_51 (by omega) (by omega) ?_
    rw [togF, if_neg (fun q => spF_1.mpr q.1 c)]
    exact Dt_rfl
  · refine V_aload_n C dX4_takeOutGroup_21 rfl ?_
    refine V_getR C 2 dX4_takeOutGroup_22 o4 rfl hin_X4_takeOutGroup_X4 (by decide) lk_X4_takeOutGroup_18 rfl rfl ?_
    refine V_iload_n C dX4_takeOutGroup_25 rfl ?_
    refine V_callSND (nA := 2) (host := "DockTree") C dX4_takeOutGroup_26 (c_aL C.gp hL 2 _ (by decide) rfl (by omega)) gX4_takeOutGroup_X8_at_n46 (by decide +kernel) (by decide +kernel) (by decide +kernel) rfl (by decide +kernel) rfl (by decide) (by decide) (Nat.le_of_ble_eq_true rfl) ⟨by omega, by omega⟩ rfl ?_
    refine V_iconst C dX4_takeOutGroup_29 ?_
    refine V_icmp_ne C 51 dX4_takeOutGroup_30 (by decide) (by omega) (by omega) (fun c2 => ?_) (fun c2 => ?_)
    · refine V_return C E dX4_takeOutGroup_51 (by omega) (by omega) ?_
      rw [togF, if_neg (fun q => c2 q.2)]
      exact Dt_rfl
    · refine V_aload_n C dX4_takeOutGroup_33 rfl ?_
      refine V_iload_n C dX4_takeOutGroup_34 rfl ?_
      refine V_iconst C dX4_takeOutGroup_35 ?_
      refine V_callVD (nA := 2) C dX4_takeOutGroup_36 (c_memberAt C.gp hL hB2 (by omega) (by omega) (by omega)) gX4_takeOutGroup_X4_memberAt rfl o4 rfl (by decide +kernel) rfl (by decide) (by decide) (Nat.le_of_ble_eq_true rfl) ⟨by omega, by omega⟩ rfl ?_
      refine V_istore_n C dX4_takeOutGroup_39 rfl (by decide) ?_
      refine V_aload_n C dX4_takeOutGroup_40 rfl ?_
      refine V_iload_n C dX4_takeOutGroup_41 rfl ?_
      refine V_callVD (nA := 1) C dX4_takeOutGroup_42 (c_remove C.gp hL hB2 (by omega) (by omega)) gX4_takeOutGroup_X4_remove rfl o4 rfl (by decide +kernel) rfl (by decide) (by decide) (Nat.le_of_ble_eq_true rfl) ⟨by omega, by omega⟩ rfl ?_
      refine V_aload_n C dX4_takeOutGroup_45 rfl ?_
      refine V_iload_n C dX4_takeOutGroup_46 rfl ?_
      refine V_iload_n C dX4_takeOutGroup_47 rfl ?_
      refine V_callVD (nA := 2) C dX4_takeOutGroup_48 (c_replace C.gp hL hB3 (by omega) (by omega) (by omega)) gX4_takeOutGroup_X4_replace rfl o4 rfl (by decide +kernel) rfl (by decide) (by decide) (Nat.le_of_ble_eq_true rfl) ⟨by omega, by omega⟩ rfl ?_
      refine V_return C E dX4_takeOutGroup_51 (by omega) (by omega) ?_
      rw [togF, if_pos ⟨spF_1.mp c, c2⟩]
      exact Dt_rfl
set_option maxRecDepth 20000 in
theorem ggX4_takeAway_X8_at : GoodIn wsX4_takeAway wsX8_at := goodIn_r _ [10] (by decide +kernel) (by decide +kernel)
set_option maxRecDepth 20000 in
theorem gX4_takeAway_X8_at_n46 : GoodIn wsX4_takeAway (wsX8_at) := ggX4_takeAway_X8_at
set_option maxRecDepth 20000 in
theorem ggX4_takeAway_X4_remove : GoodIn wsX4_takeAway wsX4_remove := goodIn_r _ [15, 1, 2, 3, 8, 9, 10, 16, 17, 42, 43, 44, 45, 46, 47, 48, 49] (by decide +kernel) (by decide +kernel)
set_option maxRecDepth 20000 in
theorem gX4_takeAway_X4_remove : GoodIn wsX4_takeAway (wsV RX4 93 RX4 yX4_remove wsX4_remove) := goodIn_app (goodIn_of _ (by decide +kernel)) ggX4_takeAway_X4_remove
set_option maxRecDepth 20000 in
theorem ggX4_takeAway_X4_takeOutGroup : GoodIn wsX4_takeAway wsX4_takeOutGroup := goodIn_r _ [21, 1, 3, 8, 9, 10, 11, 12, 13, 14, 15, 2, 16, 17, 22, 23, 24, 25, 26, 27, 28, 29, 30, 31, 32, 42, 43, 44, 45, 46, 47, 48, 49] (by decide +kernel) (by decide +kernel)
set_option maxRecDepth 20000 in
theorem gX4_takeAway_X4_takeOutGroup : GoodIn wsX4_takeAway (wsV RX4 96 RX4 yX4_takeOutGroup wsX4_takeOutGroup) := goodIn_app (goodIn_of _ (by decide +kernel)) ggX4_takeAway_X4_takeOutGroup
set_option maxRecDepth 20000 in
theorem ggX4_takeAway_X4_activeOf : GoodIn wsX4_takeAway wsX4_activeOf := goodIn_r _ [36, 37, 8, 9, 10, 42, 43, 44, 45, 46, 47, 48, 49] (by decide +kernel) (by decide +kernel)
set_option maxRecDepth 20000 in
theorem gX4_takeAway_X4_activeOf : GoodIn wsX4_takeAway (wsV RX4 99 RX4 yX4_activeOf wsX4_activeOf) := goodIn_app (goodIn_of _ (by decide +kernel)) ggX4_takeAway_X4_activeOf
set_option maxRecDepth 20000 in
theorem ggX4_takeAway_X4_memberAt : GoodIn wsX4_takeAway wsX4_memberAt := goodIn_r _ [27, 1, 2, 8, 9, 10, 42, 43, 44, 45, 46, 47, 48, 49] (by decide +kernel) (by decide +kernel)
set_option maxRecDepth 20000 in
theorem gX4_takeAway_X4_memberAt : GoodIn wsX4_takeAway (wsV RX4 73 RX4 yX4_memberAt wsX4_memberAt) := goodIn_app (goodIn_of _ (by decide +kernel)) ggX4_takeAway_X4_memberAt
set_option maxRecDepth 20000 in
theorem ggX4_takeAway_X4_changeActive : GoodIn wsX4_takeAway wsX4_changeActive := goodIn_r _ [41, 37, 16, 9, 17, 42, 43, 44, 45, 46, 47, 48, 49] (by decide +kernel) (by decide +kernel)
set_option maxRecDepth 20000 in
theorem gX4_takeAway_X4_changeActive : GoodIn wsX4_takeAway (wsV RX4 62 RX4 yX4_changeActive wsX4_changeActive) := goodIn_app (goodIn_of _ (by decide +kernel)) ggX4_takeAway_X4_changeActive
theorem dX4_takeAway_0 : decode cX4_takeAway 0 = .ok (.aload_n 0, 1) := by decide +kernel
theorem dX4_takeAway_1 : decode cX4_takeAway 1 = .ok (.getfield 9, 3) := by decide +kernel
theorem dX4_takeAway_4 : decode cX4_takeAway 4 = .ok (.iload_n 1, 1) := by decide +kernel
theorem dX4_takeAway_5 : decode cX4_takeAway 5 = .ok (.invokestatic 46, 3) := by decide +kernel
theorem dX4_takeAway_8 : decode cX4_takeAway 8 = .ok (.istore_n 2, 1) := by decide +kernel
theorem dX4_takeAway_9 : decode cX4_takeAway 9 = .ok (.iload_n 2, 1) := by decide +kernel
theorem dX4_takeAway_10 : decode cX4_takeAway 10 = .ok (.iconst (-1), 1) := by decide +kernel
theorem dX4_takeAway_11 : decode cX4_takeAway 11 = .ok (.if_icmp .ne 4, 3) := by decide +kernel
theorem dX4_takeAway_14 : decode cX4_takeAway 14 = .ok (.return_, 1) := by decide +kernel
theorem dX4_takeAway_15 : decode cX4_takeAway 15 = .ok (.aload_n 0, 1) := by decide +kernel
theorem dX4_takeAway_16 : decode cX4_takeAway 16 = .ok (.getfield 15, 3) := by decide +kernel
theorem dX4_takeAway_19 : decode cX4_takeAway 19 = .ok (.iload_n 1, 1) := by decide +kernel
theorem dX4_takeAway_20 : decode cX4_takeAway 20 = .ok (.invokestatic 46, 3) := by decide +kernel
theorem dX4_takeAway_23 : decode cX4_takeAway 23 = .ok (.istore_n 3, 1) := by decide +kernel
theorem dX4_takeAway_24 : decode cX4_takeAway 24 = .ok (.aload_n 0, 1) := by decide +kernel
theorem dX4_takeAway_25 : decode cX4_takeAway 25 = .ok (.iload_n 1, 1) := by decide +kernel
theorem dX4_takeAway_26 : decode cX4_takeAway 26 = .ok (.invokevirtual 93, 3) := by decide +kernel
theorem dX4_takeAway_29 : decode cX4_takeAway 29 = .ok (.aload_n 0, 1) := by decide +kernel
theorem dX4_takeAway_30 : decode cX4_takeAway 30 = .ok (.getfield 18, 3) := by decide +kernel
theorem dX4_takeAway_33 : decode cX4_takeAway 33 = .ok (.iload_n 2, 1) := by decide +kernel
theorem dX4_takeAway_34 : decode cX4_takeAway 34 = .ok (.invokestatic 46, 3) := by decide +kernel
theorem dX4_takeAway_37 : decode cX4_takeAway 37 = .ok (.ifCond .ne 11, 3) := by decide +kernel
theorem dX4_takeAway_40 : decode cX4_takeAway 40 = .ok (.aload_n 0, 1) := by decide +kernel
theorem dX4_takeAway_41 : decode cX4_takeAway 41 = .ok (.iload_n 2, 1) := by decide +kernel
theorem dX4_takeAway_42 : decode cX4_takeAway 42 = .ok (.invokevirtual 96, 3) := by decide +kernel
theorem dX4_takeAway_45 : decode cX4_takeAway 45 = .ok (.goto 36, 3) := by decide +kernel
theorem dX4_takeAway_48 : decode cX4_takeAway 48 = .ok (.aload_n 0, 1) := by decide +kernel
theorem dX4_takeAway_49 : decode cX4_takeAway 49 = .ok (.iload_n 2, 1) := by decide +kernel
theorem dX4_takeAway_50 : decode cX4_takeAway 50 = .ok (.invokevirtual 99, 3) := by decide +kernel
theorem dX4_takeAway_53 : decode cX4_takeAway 53 = .ok (.iload_n 1, 1) := by decide +kernel
theorem dX4_takeAway_54 : decode cX4_takeAway 54 = .ok (.if_icmp .ne 27, 3) := by decide +kernel
theorem dX4_takeAway_57 : decode cX4_takeAway 57 = .ok (.aload_n 0, 1) := by decide +kernel
theorem dX4_takeAway_58 : decode cX4_takeAway 58 = .ok (.iload_n 2, 1) := by decide +kernel
theorem dX4_takeAway_59 : decode cX4_takeAway 59 = .ok (.aload_n 0, 1) := by decide +kernel
theorem dX4_takeAway_60 : decode cX4_takeAway 60 = .ok (.iload_n 2, 1) := by decide +kernel
theorem dX4_takeAway_61 : decode cX4_takeAway 61 = .ok (.iload_n 3, 1) := by decide +kernel
theorem dX4_takeAway_62 : decode cX4_takeAway 62 = .ok (.aload_n 0, 1) := by decide +kernel
theorem dX4_takeAway_63 : decode cX4_takeAway 63 = .ok (.getfield 18, 3) := by decide +kernel
theorem dX4_takeAway_66 : decode cX4_takeAway 66 = .ok (.iload_n 2, 1) := by decide +kernel
theorem dX4_takeAway_67 : decode cX4_takeAway 67 = .ok (.invokestatic 46, 3) := by decide +kernel
theorem dX4_takeAway_70 : decode cX4_takeAway 70 = .ok (.iconst 1, 1) := by decide +kernel
theorem dX4_takeAway_71 : decode cX4_takeAway 71 = .ok (.isub, 1) := by decide +kernel
theorem dX4_takeAway_72 : decode cX4_takeAway 72 = .ok (.invokestatic 102, 3) := by decide +kernel
theorem dX4_takeAway_75 : decode cX4_takeAway 75 = .ok (.invokevirtual 73, 3) := by decide +kernel
theorem dX4_takeAway_78 : decode cX4_takeAway 78 = .ok (.invokevirtual 62, 3) := by decide +kernel
theorem dX4_takeAway_81 : decode cX4_takeAway 81 = .ok (.return_, 1) := by decide +kernel
theorem hin_X4_takeAway_X4 : ∀ w ∈ wsX40, w ∈ wsX4_takeAway := by decide +kernel
theorem lk_X4_takeAway_9 : Cond.fieldLink RX4 9 RX4 "holder" "[I" ∈ wsX4_takeAway := by decide +kernel
theorem lk_X4_takeAway_15 : Cond.fieldLink RX4 15 RX4 "place" "[I" ∈ wsX4_takeAway := by decide +kernel
theorem lk_X4_takeAway_18 : Cond.fieldLink RX4 18 RX4 "count" "[I" ∈ wsX4_takeAway := by decide +kernel
theorem c_takeAway (hG : GP G) (hL : LayS S b) (hB : Bd N L) (hN : 100 ≤ N ∧ N ≤ 1073740000) {p : Int} (hp : -N ≤ p ∧ p ≤ N) : Ct G l yX4_takeAway wsX4_takeAway 3 0 0 [.ref b, .int (I32 p)] S n (putL mu b L) la (Dt none S n (putL mu b (tkF L p)) la) := by
  have o4 := hL.1
  have b0 := aL_bd hB (by omega) 0 p
  have b1 := aL_bd hB (by omega) 1 p
  have hB2 := remF_bd hB (by omega) p
  have b5 := aL_bd hB2 (by omega) 2 (aL L 0 p)
  have b6 := aL_bd hB2 (by omega) 4 (aL L 0 p - 16)
  have r := mbrF_rng (remF L p) (aL L 0 p) (min (aL L 1 p) (aL (remF L p) 2 (aL L 0 p) - 1))
  refine Ct.ofV (cc := cX4_takeAway) (nL := 4) (ret := none) [some (.ref b), some (.int (I32 p)), none, none] hG (by decide) rfl (Nat.le_of_ble_eq_true rfl) rfl ?_
  rintro X rfl rfl C hcl hsl E
  refine V_aload_n C dX4_takeAway_0 rfl ?_
  refine V_getR C 0 dX4_takeAway_1 o4 rfl hin_X4_takeAway_X4 (by decide) lk_X4_takeAway_9 rfl rfl ?_
  refine V_iload_n C dX4_takeAway_4 rfl ?_
  refine V_callSND (nA := 2) (host := "DockTree") C dX4_takeAway_5 (c_aL C.gp hL 0 _ (by decide) rfl (by omega)) gX4_takeAway_X8_at_n46 (by decide +kernel) (by decide +kernel) (by decide +kernel) rfl (by decide +kernel) rfl (by decide) (by decide) (Nat.le_of_ble_eq_true rfl) ⟨by omega, by omega⟩ rfl ?_
  refine V_istore_n C dX4_takeAway_8 rfl (by decide) ?_
  refine V_iload_n C dX4_takeAway_9 rfl ?_
  refine V_iconst C dX4_takeAway_10 ?_
  refine V_icmp_ne C 15 dX4_takeAway_11 (by decide) (by omega) (by omega) (fun c => ?_) (fun c => ?_)
  · refine V_aload_n C dX4_takeAway_15 rfl ?_
    refine V_getR C 1 dX4_takeAway_16 o4 rfl hin_X4_takeAway_X4 (by decide) lk_X4_takeAway_15 rfl rfl ?_
    refine V_iload_n C dX4_takeAway_19 rfl ?_
    refine V_callSND (nA := 2) (host := "DockTree") C dX4_takeAway_20 (c_aL C.gp hL 1 _ (by decide) rfl (by omega)) gX4_takeAway_X8_at_n46 (by decide +kernel) (by decide +kernel) (by decide +kernel) rfl (by decide +kernel) rfl (by decide) (by decide) (Nat.le_of_ble_eq_true rfl) ⟨by omega, by omega⟩ rfl ?_
    refine V_istore_n C dX4_takeAway_23 rfl (by decide) ?_
    refine V_aload_n C dX4_takeAway_24 rfl ?_
    refine V_iload_n C dX4_takeAway_25 rfl ?_
    refine V_callVD (nA := 1) C dX4_takeAway_26 (c_remove C.gp hL hB (by omega) (by omega)) gX4_takeAway_X4_remove rfl o4 rfl (by decide +kernel) rfl (by decide) (by decide) (Nat.le_of_ble_eq_true rfl) ⟨by omega, by omega⟩ rfl ?_
    refine V_aload_n C dX4_takeAway_29 rfl ?_
    refine V_getR C 2 dX4_takeAway_30 o4 rfl hin_X4_takeAway_X4 (by decide) lk_X4_takeAway_18 rfl rfl ?_
    refine V_iload_n C dX4_takeAway_33 rfl ?_
    refine V_callSND (nA := 2) (host := "DockTree") C dX4_takeAway_34 (c_aL C.gp hL 2 _ (by decide) rfl (by omega)) gX4_takeAway_X8_at_n46 (by decide +kernel) (by decide +kernel) (by decide +kernel) rfl (by decide +kernel) rfl (by decide) (by decide) (Nat.le_of_ble_eq_true rfl) ⟨by omega, by omega⟩ rfl ?_
    refine V_if_ne C 48 dX4_takeAway_37 (by decide) (by omega) (fun c2 => ?_) (fun c2 => ?_)
    · refine V_aload_n C dX4_takeAway_48 rfl ?_
      refine V_iload_n C dX4_takeAway_49 rfl ?_
      refine V_callVD (nA := 1) C dX4_takeAway_50 (c_activeOf C.gp hL (by omega)) gX4_takeAway_X4_activeOf rfl o4 rfl (by decide +kernel) rfl (by decide) (by decide) (Nat.le_of_ble_eq_true rfl) ⟨by omega, by omega⟩ rfl ?_
      refine V_iload_n C dX4_takeAway_53 rfl ?_
      refine V_icmp_ne C 81 dX4_takeAway_54 (by decide) (by omega) (by omega) (fun c3 => ?_) (fun c3 => ?_)
      · refine V_return C E dX4_takeAway_81 (by omega) (by omega) ?_
        rw [tkF, if_neg c, if_neg c2, if_neg c3]
        exact Dt_rfl
      · refine V_aload_n C dX4_takeAway_57 rfl ?_
        refine V_iload_n C dX4_takeAway_58 rfl ?_
        refine V_aload_n C dX4_takeAway_59 rfl ?_
        refine V_iload_n C dX4_takeAway_60 rfl ?_
        refine V_iload_n C dX4_takeAway_61 rfl ?_
        refine V_aload_n C dX4_takeAway_62 rfl ?_
        refine V_getR C 2 dX4_takeAway_63 o4 rfl hin_X4_takeAway_X4 (by decide) lk_X4_takeAway_18 rfl rfl ?_
        refine V_iload_n C dX4_takeAway_66 rfl ?_
        refine V_callSND (nA := 2) (host := "DockTree") C dX4_takeAway_67 (c_aL C.gp hL 2 _ (by decide) rfl (by omega)) gX4_takeAway_X8_at_n46 (by decide +kernel) (by decide +kernel) (by decide +kernel) rfl (by decide +kernel) rfl (by decide) (by decide) (Nat.le_of_ble_eq_true rfl) ⟨by omega, by omega⟩ rfl ?_
        refine V_iconst C dX4_takeAway_70 ?_
        refine V_isub C dX4_takeAway_71 ?_
        refine V_mmin C dX4_takeAway_72 (by decide +kernel) (by decide +kernel) (by decide +kernel) (by decide +kernel) (by decide) (Nat.le_of_ble_eq_true rfl) ⟨by omega, by omega⟩ (by omega) (by omega) ?_
        refine V_callVD (nA := 2) C dX4_takeAway_75 (c_memberAt C.gp hL hB2 (by omega) (by omega) (by omega)) gX4_takeAway_X4_memberAt rfl o4 rfl (by decide +kernel) rfl (by decide) (by decide) (Nat.le_of_ble_eq_true rfl) ⟨by omega, by omega⟩ rfl ?_
        refine V_callVD (nA := 2) C dX4_takeAway_78 (c_changeActive C.gp hL (by omega)) gX4_takeAway_X4_changeActive rfl o4 rfl (by decide +kernel) rfl (by decide) (by decide) (Nat.le_of_ble_eq_true rfl) ⟨by omega, by omega⟩ rfl ?_
        refine V_return C E dX4_takeAway_81 (by omega) (by omega) ?_
        rw [tkF, if_neg c, if_neg c2, if_pos c3]
        exact Dt_rfl
    · refine V_aload_n C dX4_takeAway_40 rfl ?_
      refine V_iload_n C dX4_takeAway_41 rfl ?_
      refine V_callVD (nA := 1) C dX4_takeAway_42 (c_takeOutGroup C.gp hL hB2 (by omega) (by omega)) gX4_takeAway_X4_takeOutGroup rfl o4 rfl (by decide +kernel) rfl (by decide) (by decide) (Nat.le_of_ble_eq_true rfl) ⟨by omega, by omega⟩ rfl ?_
      refine V_goto C 81 dX4_takeAway_45 (by decide) ?_
      refine V_return C E dX4_takeAway_81 (by omega) (by omega) ?_
      rw [tkF, if_neg c, if_pos c2]
      exact Dt_rfl
  · refine V_return C E dX4_takeAway_14 (by omega) (by omega) ?_
    rw [tkF, if_pos c]
    exact Dt_rfl
end LC
