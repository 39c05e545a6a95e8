/-! THE REFERENCE: texts of commands. Spot r 20, word la r 21, numbers row r + 16, text row r + 5, its length r 6. (A few rows of the kit's BITS family.) -/
theorem wb_tb (n : Nat) : (lN n).toBitVec = BitVec.ofNat 64 n := rfl
theorem wb_inj {a b : Int64} (h : a.toBitVec = b.toBitVec) : a = b := Int64.toBitVec_inj.mp h
theorem wb_c : ∀ k, k < 64 → ((nI k).toInt64 &&& 63) = lN k := by decide +kernel
theorem wb_sm : ∀ k, k < 64 → (BitVec.ofNat 64 k).smod 64 = BitVec.ofNat 64 k := by decide +kernel
theorem wb_shl (n : Nat) {k : Nat} (hk : k < 64) : lN n <<< ((nI k).toInt64 &&& 63) = lN (n * 2 ^ k) := by
  rw [wb_c k hk]
  apply wb_inj
  rw [Int64.toBitVec_shiftLeft, wb_tb, wb_tb, wb_tb, wb_sm k hk]
  apply BitVec.eq_of_toNat_eq
  rw [BitVec.shiftLeft_eq', BitVec.toNat_shiftLeft, BitVec.toNat_ofNat, BitVec.toNat_ofNat, BitVec.toNat_ofNat, Nat.mod_eq_of_lt (show k < 2 ^ 64 by omega), Nat.shiftLeft_eq, Nat.mul_mod, Nat.mod_mod, ← Nat.mul_mod]
theorem wb_or {a b : Nat} (ha : a < 2 ^ 64) (hb : b < 2 ^ 64) : lN a ||| lN b = lN (a ||| b) := by
  apply wb_inj
  rw [Int64.toBitVec_or, wb_tb, wb_tb, wb_tb]
  apply BitVec.eq_of_toNat_eq
  rw [BitVec.toNat_or, BitVec.toNat_ofNat, BitVec.toNat_ofNat, BitVec.toNat_ofNat, Nat.mod_eq_of_lt ha, Nat.mod_eq_of_lt hb, Nat.mod_eq_of_lt (Nat.or_lt_two_pow ha hb)]
theorem I64_nat (n : Nat) : I64 (n : Int) = lN n := rfl
theorem pkw_eq {v b : Int} (hv : 0 ≤ v ∧ v < 1099511627776) (hb : 0 ≤ b ∧ b < 256) : (I64 v <<< ((I32 8).toInt64 &&& 63)) ||| (I32 b).toInt64 = I64 (256 * v + b) := by
  obtain ⟨m, rfl⟩ : ∃ m : Nat, v = m := ⟨v.toNat, by omega⟩
  obtain ⟨k, rfl⟩ : ∃ k : Nat, b = k := ⟨b.toNat, by omega⟩
  rw [show (I32 (k : Int)).toInt64 = I64 (k : Int) from I64_32 (by omega), I64_nat, I64_nat, show (I32 8).toInt64 &&& 63 = ((nI 8).toInt64 &&& 63) from rfl, wb_shl m (by decide), wb_or (by omega) (by omega), show m * 2 ^ 8 ||| k = m * 2 ^ 8 + k by rw [← Nat.shiftLeft_eq, Nat.shiftLeft_add_eq_or_of_lt (by omega)], show (256 * (m : Int) + (k : Int)) = ((m * 2 ^ 8 + k : Nat) : Int) by omega, I64_nat]
theorem I64_inj {x y : Int} (hx : 0 ≤ x ∧ x < 4000000000000) (hy : 0 ≤ y ∧ y < 4000000000000) : I64 x = I64 y ↔ x = y := by
  have h1 : (I64 x).toInt = x := Int64.toInt_ofInt_of_le (by omega) (by omega)
  have h2 : (I64 y).toInt = y := Int64.toInt_ofInt_of_le (by omega) (by omega)
  constructor
  · intro h; rw [← h1, ← h2, h]
  · intro h; rw [h]
def cmI (x y : Int) : Int := if x = y then 0 else if y < x then 1 else -1
theorem lc_eq {x y : Int} (hx : 0 ≤ x ∧ x < 4000000000000) (hy : 0 ≤ y ∧ y < 4000000000000) : lg_cmp (I64 x) (I64 y) = I32 (cmI x y) := by
  have h1 : (I64 x).toInt = x := Int64.toInt_ofInt_of_le (by omega) (by omega)
  have h2 : (I64 y).toInt = y := Int64.toInt_ofInt_of_le (by omega) (by omega)
  unfold lg_cmp cmI
  have h4 := I64_inj hx hy
  have h3 : (I64 x > I64 y) ↔ y < x := by rw [gt_iff_lt, Int64.lt_iff_toInt_lt, h1, h2]
  by_cases q1 : y < x
  · rw [if_pos (h3.mpr q1), if_neg (show ¬ x = y by omega), if_pos q1]; rfl
  · rw [if_neg (fun z => q1 (h3.mp z))]
    by_cases q2 : x = y
    · rw [if_pos (h4.mpr q2), if_pos q2]; rfl
    · rw [if_neg (fun z => q2 (h4.mp z)), if_neg q2, if_neg q1]; rfl
theorem lcL {x y : Int} {Y : Int64} (h : Y = I64 y) (hx : 0 ≤ x ∧ x < 4000000000000) (hy : 0 ≤ y ∧ y < 4000000000000) : lg_cmp (I64 x) Y = I32 (cmI x y) := by
  rw [h]; exact lc_eq hx hy
theorem cmI_0 {x y : Int} : cmI x y = 0 ↔ x = y := by unfold cmI; (repeat' split) <;> omega
theorem cmI_b (x y : Int) : -1 ≤ cmI x y ∧ cmI x y ≤ 1 := by unfold cmI; (repeat' split) <;> omega
def mxM (mu : Mem) (r : Nat) (c : Int) (N : Int → Int) : Mem := fun a i => if a = r ∧ i = 20 then c else if a = r + 16 then N i else mu a i
theorem mx_c {mu : Mem} {r : Nat} {c : Int} {N : Int → Int} : mxM mu r c N r 20 = c := by unfold mxM; rw [if_pos ⟨rfl, rfl⟩]
theorem mx_6 {mu : Mem} {r : Nat} {c : Int} {N : Int → Int} : mxM mu r c N r 6 = mu r 6 := by unfold mxM; rw [if_neg (by omega), if_neg (by omega)]
theorem mx_a {mu : Mem} {r a : Nat} {c : Int} {N : Int → Int} (h : a ≠ r) (h2 : a ≠ r + 16) (i : Int) : mxM mu r c N a i = mu a i := by unfold mxM; rw [if_neg (by omega), if_neg h2]
theorem mx_r {mu : Mem} {r : Nat} {c i : Int} {N : Int → Int} (h : i ≠ 20) : mxM mu r c N r i = mu r i := by unfold mxM; rw [if_neg (by omega), if_neg (by omega)]
theorem mx_n {mu : Mem} {r : Nat} {c i : Int} {N : Int → Int} : mxM mu r c N (r + 16) i = N i := by unfold mxM; rw [if_neg (by omega), if_pos rfl]
theorem mxu_c {mu : Mem} {r : Nat} {c v : Int} {N : Int → Int} : up (mxM mu r c N) r 20 v = mxM mu r v N := by
  funext a i
  rw [up_e]
  unfold mxM
  by_cases h : a = r ∧ i = 20
  · rw [if_pos h, if_pos h]
  · rw [if_neg h, if_neg h, if_neg h]
theorem mxu_n {mu : Mem} {r : Nat} {c k v : Int} {N : Int → Int} : up (mxM mu r c N) (r + 16) k v = mxM mu r c (fun j => if j = k then v else N j) := by
  funext a i
  rw [up_e]
  unfold mxM
  by_cases h : a = r ∧ i = 20
  · rw [if_neg (by omega), if_pos h, if_pos h]
  · rw [if_neg h, if_neg h]
    by_cases h2 : a = r + 16
    · rw [if_pos h2, if_pos h2]
      by_cases h3 : i = k
      · rw [if_pos ⟨h2, h3⟩]; exact (if_pos h3).symm
      · rw [if_neg (fun z => h3 z.2)]; exact (if_neg h3).symm
    · rw [if_neg (fun z => h2 z.1), if_neg h2, if_neg h2]
theorem mx_self (mu : Mem) (r : Nat) : mxM mu r (mu r 20) (mu (r + 16)) = mu := by
  funext a i
  unfold mxM
  split
  · rename_i h; rw [h.1, h.2]
  · split
    · rename_i h; rw [h]
    · rfl
theorem upl_upl (la : Lam) (a i : Nat) (v w : Int64) : upl (upl la a i v) a i w = upl la a i w := by
  funext b j
  unfold upl
  split <;> rfl
theorem upl_s (la : Lam) (a i : Nat) (v : Int64) : upl la a i v a i = v := by simp [upl]
def rAt (mu : Mem) (r : Nat) (c lo hi : Int) : Int := if c < mu r 6 ∧ lo ≤ mu (r + 5) c ∧ mu (r + 5) c ≤ hi then 1 else 0
theorem rAt_b (mu : Mem) (r : Nat) (c lo hi : Int) : 0 ≤ rAt mu r c lo hi ∧ rAt mu r c lo hi ≤ 1 := by unfold rAt; split <;> omega
def kF (mu : Mem) (r : Nat) (c : Int) : Int := scG (mu (r + 5)) 32 32 (mu r 6 - c).toNat c
theorem kF_b (mu : Mem) (r : Nat) {c : Int} (h : 0 ≤ c ∧ c ≤ mu r 6) : c ≤ kF mu r c ∧ kF mu r c ≤ mu r 6 := by
  have := scG_b (mu (r + 5)) 32 32 (mu r 6 - c).toNat c
  unfold kF
  omega
/-- the word as a number -/
def pvG (B : Int → Int) (u : Int) : Nat → Int → Int → Int
  | 0, _, v => v
  | d + 1, c, v => if 97 ≤ B c ∧ B c ≤ 122 then pvG B u d (c + 1) (if c - u < 5 then 256 * v + B c else 0) else v
theorem pvG_b (B : Int → Int) (u : Int) : ∀ (d : Nat) (c v : Int), u ≤ c → (0 ≤ v ∧ (c - u ≤ 5 → v < 256 ^ (c - u).toNat) ∧ (5 < c - u → v = 0)) → 0 ≤ pvG B u d c v ∧ pvG B u d c v < 1099511627776
  | 0, c, v, hc, h => by
    rw [pvG]
    refine ⟨h.1, ?_⟩
    by_cases h5 : c - u ≤ 5
    · have h1 := h.2.1 h5
      have : 256 ^ (c - u).toNat ≤ (256 : Int) ^ 5 := by
        have hk : (c - u).toNat = 0 ∨ (c - u).toNat = 1 ∨ (c - u).toNat = 2 ∨ (c - u).toNat = 3 ∨ (c - u).toNat = 4 ∨ (c - u).toNat = 5 := by omega
        rcases hk with e | e | e | e | e | e <;> rw [e] <;> decide
      have e5 : (256 : Int) ^ 5 = 1099511627776 := by decide
      omega
    · have := h.2.2 (by omega)
      omega
  | d + 1, c, v, hc, h => by
    rw [pvG]
    split
    · rename_i z
      refine pvG_b B u d (c + 1) _ (by omega) ?_
      by_cases h5 : c - u < 5
      · rw [if_pos h5]
        refine ⟨by omega, fun _ => ?_, fun q => by omega⟩
        have h1 := h.2.1 (by omega)
        have e : (c + 1 - u).toNat = (c - u).toNat + 1 := by omega
        rw [e, Int.pow_succ]
        omega
      · rw [if_neg h5]
        exact ⟨by omega, fun q => by omega, fun q => rfl⟩
    · have h0 := pvG_b B u 0 c v hc h
      rw [pvG] at h0
      exact h0
def pvI (u c v : Int) : Prop := 0 ≤ v ∧ (c - u ≤ 5 → v < 256 ^ (c - u).toNat) ∧ (5 < c - u → v = 0)
theorem pvI_b {u c v : Int} (hc : u ≤ c) (h : pvI u c v) : 0 ≤ v ∧ v < 1099511627776 := by
  refine ⟨h.1, ?_⟩
  by_cases h5 : c - u ≤ 5
  · have h1 := h.2.1 h5
    have : 256 ^ (c - u).toNat ≤ (256 : Int) ^ 5 := by
      have hk : (c - u).toNat = 0 ∨ (c - u).toNat = 1 ∨ (c - u).toNat = 2 ∨ (c - u).toNat = 3 ∨ (c - u).toNat = 4 ∨ (c - u).toNat = 5 := by omega
      rcases hk with e | e | e | e | e | e <;> rw [e] <;> decide
    have e5 : (256 : Int) ^ 5 = 1099511627776 := by decide
    omega
  · have := h.2.2 (by omega)
    omega
theorem pvI_4 {u c v : Int} (hc : u ≤ c) (h : pvI u c v) (h5 : c - u < 5) : v < 4294967296 := by
  have h1 := h.2.1 (by omega)
  have : 256 ^ (c - u).toNat ≤ (256 : Int) ^ 4 := by
    have hk : (c - u).toNat = 0 ∨ (c - u).toNat = 1 ∨ (c - u).toNat = 2 ∨ (c - u).toNat = 3 ∨ (c - u).toNat = 4 := by omega
    rcases hk with e | e | e | e | e <;> rw [e] <;> decide
  have e5 : (256 : Int) ^ 4 = 4294967296 := by decide
  omega
theorem pvI_0 {u c : Int} (h : 5 ≤ c - u) : pvI u (c + 1) 0 := ⟨Int.le_refl _, fun q => by omega, fun _ => rfl⟩
theorem pvI_s {u c v b : Int} (hc : u ≤ c) (h : pvI u c v) (h5 : c - u < 5) (hb : 0 ≤ b ∧ b < 256) : pvI u (c + 1) (256 * v + b) := by
  have h0 := h.1
  refine ⟨by omega, fun _ => ?_, fun q => by omega⟩
  have h1 := h.2.1 (by omega)
  have e : (c + 1 - u).toNat = (c - u).toNat + 1 := by omega
  rw [e, Int.pow_succ]
  omega
def mnF (v : Int) : Int := if v = 1885433445 ∨ v = 1701078885 ∨ v = 495672455781 then 2 else if v = 427021005669 ∨ v = 1935767141 ∨ v = 1819238756 then 1 else if v = 1685021547 then 3 else if v = 439905902964 then 5 else -1
theorem mnF_b (v : Int) : -1 ≤ mnF v ∧ mnF v ≤ 5 := by unfold mnF; (repeat' split) <;> omega
def wcF (mu : Mem) (r : Nat) (c : Int) : Int := scG (mu (r + 5)) 97 122 (mu r 6 - c).toNat c
def wvF9 (mu : Mem) (r : Nat) (c : Int) : Int := pvG (mu (r + 5)) c (mu r 6 - c).toNat c 0
theorem wcF_b (mu : Mem) (r : Nat) {c : Int} (h : 0 ≤ c ∧ c ≤ mu r 6) : c ≤ wcF mu r c ∧ wcF mu r c ≤ mu r 6 := by
  have := scG_b (mu (r + 5)) 97 122 (mu r 6 - c).toNat c
  unfold wcF
  omega
theorem wvF9_b (mu : Mem) (r : Nat) (c : Int) : 0 ≤ wvF9 mu r c ∧ wvF9 mu r c < 1099511627776 := pvG_b _ _ _ _ _ (Int.le_refl _) ⟨Int.le_refl _, fun _ => by simp, fun _ => rfl⟩
/-- whether a word stands there -/
def iwR (mu : Mem) (r : Nat) (c : Int) : Int := if wcF mu r c - c ≤ 5 ∧ mnF (wvF9 mu r c) ≠ -1 then 1 else 0
def iwC (mu : Mem) (r : Nat) (c : Int) : Int := if iwR mu r c = 1 then wcF mu r c else c
def rgG (mu : Mem) (r : Nat) : Nat → Int → Int → Int × Int
  | 0, c, v => (c, v)
  | d + 1, c, v => if rAt mu r c 48 57 = 1 then rgG mu r d (c + 1) (10 * v + mu (r + 5) c - 48) else (c, v)
theorem rgG_b (mu : Mem) (r : Nat) : ∀ (d : Nat) (c v : Int), 0 ≤ c ∧ c ≤ mu r 6 → c ≤ (rgG mu r d c v).1 ∧ (rgG mu r d c v).1 ≤ mu r 6
  | 0, c, v, h => by simp only [rgG]; omega
  | d + 1, c, v, h => by
    rw [rgG]
    split
    · rename_i z
      have hc : c < mu r 6 := by unfold rAt at z; split at z <;> omega
      have := rgG_b mu r d (c + 1) (10 * v + mu (r + 5) c - 48) (by omega)
      omega
    · simp only []; omega
/-- a number: (whether, spot, numbers) -/
def nmF (mu : Mem) (r : Nat) (k c : Int) (N : Int → Int) : Int × Int × (Int → Int) :=
  if rAt mu r c 32 32 = 1 then (if kF mu r c < (rgG mu r 3 (kF mu r c) 0).1 ∧ rAt mu r (rgG mu r 3 (kF mu r c) 0).1 48 57 = 0 then 1 else 0, (rgG mu r 3 (kF mu r c) 0).1, fun j => if j = k then (rgG mu r 3 (kF mu r c) 0).2 else N j) else (0, c, N)
theorem nmF_b (mu : Mem) (r : Nat) (k : Int) {c : Int} (N : Int → Int) (h : 0 ≤ c ∧ c ≤ mu r 6) : (c ≤ (nmF mu r k c N).2.1 ∧ (nmF mu r k c N).2.1 ≤ mu r 6) ∧ 0 ≤ (nmF mu r k c N).1 ∧ (nmF mu r k c N).1 ≤ 1 := by
  unfold nmF
  split
  · have h1 := kF_b mu r h
    have h2 := rgG_b mu r 3 (kF mu r c) 0 (by omega)
    refine ⟨by dsimp only; omega, ?_⟩
    dsimp only
    split <;> omega
  · dsimp only; omega
def nlG (mu : Mem) (r : Nat) : Nat → Int → Int → (Int → Int) → Int × Int × (Int → Int)
  | 0, _, c, N => (1, c, N)
  | d + 1, k, c, N => if (nmF mu r k c N).1 = 1 then nlG mu r d (k + 1) (nmF mu r k c N).2.1 (nmF mu r k c N).2.2 else (0, (nmF mu r k c N).2.1, (nmF mu r k c N).2.2)
theorem nlG_b (mu : Mem) (r : Nat) : ∀ (d : Nat) (k c : Int) (N : Int → Int), 0 ≤ c ∧ c ≤ mu r 6 → (c ≤ (nlG mu r d k c N).2.1 ∧ (nlG mu r d k c N).2.1 ≤ mu r 6) ∧ 0 ≤ (nlG mu r d k c N).1 ∧ (nlG mu r d k c N).1 ≤ 1
  | 0, k, c, N, h => by simp only [nlG]; omega
  | d + 1, k, c, N, h => by
    have h1 := nmF_b mu r k N h
    rw [nlG]
    split
    · have := nlG_b mu r d (k + 1) (nmF mu r k c N).2.1 (nmF mu r k c N).2.2 (by omega)
      omega
    · dsimp only; omega
abbrev Rx : Type := Int × Int × Int × (Int → Int)
/-- a command: (whether, spot, word, numbers) -/
def cmA (mu : Mem) (r : Nat) (v : Int) (x : Int × Int × (Int → Int)) : Rx :=
  if x.1 = 1 then (if rAt mu r (kF mu r x.2.1) 59 59 = 1 then (1, kF mu r (kF mu r x.2.1 + 1), v, x.2.2) else (0, kF mu r x.2.1, v, x.2.2)) else (0, x.2.1, v, x.2.2)
def cmF (mu : Mem) (r : Nat) (c : Int) (N : Int → Int) : Rx :=
  if iwR mu r c = 1 then cmA mu r (wvF9 mu r c) (nlG mu r (mnF (wvF9 mu r c)).toNat 0 (wcF mu r c) N) else (0, c, wvF9 mu r c, N)
theorem rAt_lt {mu : Mem} {r : Nat} {c lo hi : Int} (h : rAt mu r c lo hi = 1) : c < mu r 6 := by unfold rAt at h; split at h <;> omega
theorem cmF_b (mu : Mem) (r : Nat) {c : Int} (N : Int → Int) (h : 0 ≤ c ∧ c ≤ mu r 6) : (c ≤ (cmF mu r c N).2.1 ∧ (cmF mu r c N).2.1 ≤ mu r 6) ∧ (0 ≤ (cmF mu r c N).1 ∧ (cmF mu r c N).1 ≤ 1) ∧ ((cmF mu r c N).1 = 1 → c < (cmF mu r c N).2.1) := by
  unfold cmF
  split
  · have h1 := wcF_b mu r h
    have h2 := nlG_b mu r (mnF (wvF9 mu r c)).toNat 0 (wcF mu r c) N (by omega)
    generalize nlG mu r (mnF (wvF9 mu r c)).toNat 0 (wcF mu r c) N = x at h2
    have h3 := kF_b mu r (c := x.2.1) (by omega)
    unfold cmA
    split
    · split
      · rename_i z
        have h4 := rAt_lt z
        have h5 := kF_b mu r (c := kF mu r x.2.1 + 1) (by omega)
        dsimp only; omega
      · dsimp only; omega
    · dsimp only; omega
  · dsimp only; omega
theorem rAt_2 {mu : Mem} {r : Nat} {c lo hi : Int} (h : rAt mu r c lo hi = 1) : lo ≤ mu (r + 5) c ∧ mu (r + 5) c ≤ hi := by unfold rAt at h; split at h <;> omega
theorem rB_R {mu : Mem} (hR : R32 mu) (r : Nat) (c : Int) : -2147483648 ≤ mu (r + 5) c ∧ mu (r + 5) c ≤ 2147483647 := hR _ _
section ME
variable {G : Gx} {l : Launch} {S : Sh} {n : Nat} {mu : Mem} {la : Lam} {r : Nat} {c : Int} {N : Int → Int}
set_option maxRecDepth 20000 in
theorem ggX9_isAt_X9_in : GoodIn wsX9_isAt wsX9_in := goodIn_r _ [7] (by decide +kernel) (by decide +kernel)
set_option maxRecDepth 20000 in
theorem gX9_isAt_X9_in : GoodIn wsX9_isAt (va_wsS RX9 73 yX9_in wsX9_in) := goodIn_app (goodIn_of _ (by decide +kernel)) ggX9_isAt_X9_in
theorem dX9_isAt_0 : decode cX9_isAt 0 = .ok (.aload_n 0, 1) := by decide +kernel
theorem dX9_isAt_1 : decode cX9_isAt 1 = .ok (.getfield 289, 3) := by decide +kernel
theorem dX9_isAt_4 : decode cX9_isAt 4 = .ok (.aload_n 0, 1) := by decide +kernel
theorem dX9_isAt_5 : decode cX9_isAt 5 = .ok (.getfield 286, 3) := by decide +kernel
theorem dX9_isAt_8 : decode cX9_isAt 8 = .ok (.if_icmp .ge 24, 3) := by decide +kernel
theorem dX9_isAt_11 : decode cX9_isAt 11 = .ok (.aload_n 0, 1) := by decide +kernel
theorem dX9_isAt_12 : decode cX9_isAt 12 = .ok (.getfield 22, 3) := by decide +kernel
theorem dX9_isAt_15 : decode cX9_isAt 15 = .ok (.aload_n 0, 1) := by decide +kernel
theorem dX9_isAt_16 : decode cX9_isAt 16 = .ok (.getfield 289, 3) := by decide +kernel
theorem dX9_isAt_19 : decode cX9_isAt 19 = .ok (.iaload, 1) := by decide +kernel
theorem dX9_isAt_20 : decode cX9_isAt 20 = .ok (.iload_n 1, 1) := by decide +kernel
theorem dX9_isAt_21 : decode cX9_isAt 21 = .ok (.iload_n 2, 1) := by decide +kernel
theorem dX9_isAt_22 : decode cX9_isAt 22 = .ok (.invokestatic 73, 3) := by decide +kernel
theorem dX9_isAt_25 : decode cX9_isAt 25 = .ok (.ifCond .eq 7, 3) := by decide +kernel
theorem dX9_isAt_28 : decode cX9_isAt 28 = .ok (.iconst 1, 1) := by decide +kernel
theorem dX9_isAt_29 : decode cX9_isAt 29 = .ok (.goto 4, 3) := by decide +kernel
theorem dX9_isAt_32 : decode cX9_isAt 32 = .ok (.iconst 0, 1) := by decide +kernel
theorem dX9_isAt_33 : decode cX9_isAt 33 = .ok (.ireturn, 1) := by decide +kernel
theorem hin_X9_isAt_X9 : ∀ w ∈ wsX90, w ∈ wsX9_isAt := by decide +kernel
theorem lk_X9_isAt_289 : Cond.fieldLink RX9 289 RX9 "spot" "I" ∈ wsX9_isAt := by decide +kernel
theorem lk_X9_isAt_286 : Cond.fieldLink RX9 286 RX9 "typed" "I" ∈ wsX9_isAt := by decide +kernel
theorem lk_X9_isAt_22 : Cond.fieldLink RX9 22 RX9 "text" "[I" ∈ wsX9_isAt := by decide +kernel
theorem u_isAt (hG : GP G) (hM : MoS S r) (hR : R32 mu) (hn : 0 ≤ mu r 6 ∧ mu r 6 ≤ 150) (hc : 0 ≤ c ∧ c ≤ mu r 6) {x y : Int} (hx : -2147483648 ≤ x ∧ x ≤ 2147483647) (hy : -2147483648 ≤ y ∧ y ≤ 2147483647) : Ct G l yX9_isAt wsX9_isAt 1 0 0 [.ref r, .int (I32 x), .int (I32 y)] S n (mxM mu r c N) la (Dt (some (.int (I32 (rAt mu r c x y)))) S n (mxM mu r c N) la) := by
  have o9 := hM.1
  have bB := rB_R hR r c
  have e5 : mxM mu r c N (r + 5) c = mu (r + 5) c := mx_a (by omega) (by omega) c
  unfold rAt
  refine Ct.ofV (cc := cX9_isAt) (nL := 3) (ret := (some .boolean)) [some (.ref r), some (.int (I32 x)), some (.int (I32 y))] hG (by decide) rfl (Nat.le_of_ble_eq_true rfl) rfl ?_
  rintro X rfl rfl C hcl hsl E
  refine V_aload_n C dX9_isAt_0 rfl ?_
  refine V_getJ C 20 20 rfl dX9_isAt_1 o9 rfl hin_X9_isAt_X9 (by decide) lk_X9_isAt_289 rfl rfl (by first | exact mx_c | exact mx_6) ?_
  refine V_aload_n C dX9_isAt_4 rfl ?_
  refine V_getJ C 6 6 rfl dX9_isAt_5 o9 rfl hin_X9_isAt_X9 (by decide) lk_X9_isAt_286 rfl rfl (by first | exact mx_c | exact mx_6) ?_
  refine V_icmp_ge C 32 dX9_isAt_8 (by decide) (by omega) (by omega) (fun z => ?_) (fun z => ?_)
  · rw [if_neg (by omega)] at E
    refine V_iconst C dX9_isAt_32 ?_
    refine V_zreturn C E (by first | exact Or.inl rfl | exact Or.inr rfl | simp) dX9_isAt_33 (by omega) (by omega) ?_
    exact Dt_rfl
  · refine V_aload_n C dX9_isAt_11 rfl ?_
    refine V_getR C 5 dX9_isAt_12 o9 rfl hin_X9_isAt_X9 (by decide) lk_X9_isAt_22 rfl rfl ?_
    refine V_aload_n C dX9_isAt_15 rfl ?_
    refine V_getJ C 20 20 rfl dX9_isAt_16 o9 rfl hin_X9_isAt_X9 (by decide) lk_X9_isAt_289 rfl rfl (by first | exact mx_c | exact mx_6) ?_
    refine V_ialdJ C dX9_isAt_19 hM.2.2.2.2.2.1 (by first | assumption | decide) (by omega) e5 ?_
    refine V_iload_n C dX9_isAt_20 rfl ?_
    refine V_iload_n C dX9_isAt_21 rfl ?_
    refine V_callSD (nA := 3) C dX9_isAt_22 (m_in C.gp bB hx hy) gX9_isAt_X9_in rfl (by decide +kernel) rfl (by decide) (by decide) (Nat.le_of_ble_eq_true rfl) ⟨by omega, by omega⟩ rfl ?_
    by_cases hb : x ≤ mu (r + 5) c ∧ mu (r + 5) c ≤ y
    · rw [if_pos ⟨z, hb⟩] at E
      rw [inI_1 hb]
      refine V_if_eq C 32 dX9_isAt_25 (by decide) (by omega) (fun z2 => ?_) (fun z2 => ?_)
      · exact absurd z2 (by decide)
      · refine V_iconst C dX9_isAt_28 ?_
        refine V_goto C 33 dX9_isAt_29 (by decide) ?_
        refine V_zreturn C E (by first | exact Or.inl rfl | exact Or.inr rfl | simp) dX9_isAt_33 (by omega) (by omega) ?_
        exact Dt_rfl
    · rw [if_neg (fun q => hb q.2)] at E
      rw [inI_0 hb]
      refine V_if_eq C 32 dX9_isAt_25 (by decide) (by omega) (fun z2 => ?_) (fun z2 => ?_)
      · refine V_iconst C dX9_isAt_32 ?_
        refine V_zreturn C E (by first | exact Or.inl rfl | exact Or.inr rfl | simp) dX9_isAt_33 (by omega) (by omega) ?_
        exact Dt_rfl
      · exact absurd rfl z2
set_option maxRecDepth 20000 in
theorem ggX9_skips_X9_isAt : GoodIn wsX9_skips wsX9_isAt := goodIn_r _ [6, 1, 7, 8, 9, 10, 5, 11, 12, 13, 14, 15, 16, 17, 18, 19, 20, 21, 22, 23, 24, 25, 26, 27, 28, 29, 30, 31, 32, 33, 34, 35] (by decide +kernel) (by decide +kernel)
set_option maxRecDepth 20000 in
theorem gX9_skips_X9_isAt : GoodIn wsX9_skips (wsV RX9 292 RX9 yX9_isAt wsX9_isAt) := goodIn_app (goodIn_of _ (by decide +kernel)) ggX9_skips_X9_isAt
theorem dX9_skips_0 : decode cX9_skips 0 = .ok (.aload_n 0, 1) := by decide +kernel
theorem dX9_skips_1 : decode cX9_skips 1 = .ok (.bipush 32, 2) := by decide +kernel
theorem dX9_skips_3 : decode cX9_skips 3 = .ok (.bipush 32, 2) := by decide +kernel
theorem dX9_skips_5 : decode cX9_skips 5 = .ok (.invokevirtual 292, 3) := by decide +kernel
theorem dX9_skips_8 : decode cX9_skips 8 = .ok (.ifCond .eq 16, 3) := by decide +kernel
theorem dX9_skips_11 : decode cX9_skips 11 = .ok (.aload_n 0, 1) := by decide +kernel
theorem dX9_skips_12 : decode cX9_skips 12 = .ok (.dup, 1) := by decide +kernel
theorem dX9_skips_13 : decode cX9_skips 13 = .ok (.getfield 289, 3) := by decide +kernel
theorem dX9_skips_16 : decode cX9_skips 16 = .ok (.iconst 1, 1) := by decide +kernel
theorem dX9_skips_17 : decode cX9_skips 17 = .ok (.iadd, 1) := by decide +kernel
theorem dX9_skips_18 : decode cX9_skips 18 = .ok (.putfield 289, 3) := by decide +kernel
theorem dX9_skips_21 : decode cX9_skips 21 = .ok (.goto (-21), 3) := by decide +kernel
theorem dX9_skips_24 : decode cX9_skips 24 = .ok (.return_, 1) := by decide +kernel
theorem hin_X9_skips_X9 : ∀ w ∈ wsX90, w ∈ wsX9_skips := by decide +kernel
theorem lk_X9_skips_289 : Cond.fieldLink RX9 289 RX9 "spot" "I" ∈ wsX9_skips := by decide +kernel
theorem u_skips (hG : GP G) (hM : MoS S r) (hR : R32 mu) (hn : 0 ≤ mu r 6 ∧ mu r 6 ≤ 150) (hc : 0 ≤ c ∧ c ≤ mu r 6) : Ct G l yX9_skips wsX9_skips 2 0 0 [.ref r] S n (mxM mu r c N) la (Dt none S n (mxM mu r (kF mu r c) N) la) := by
  have o9 := hM.1
  unfold kF
  generalize eR : scG (mu (r + 5)) 32 32 (mu r 6 - c).toNat c = R
  refine Ct.ofV (cc := cX9_skips) (nL := 1) (ret := none) [some (.ref r)] hG (by decide) rfl (Nat.le_of_ble_eq_true rfl) rfl ?_
  rintro X rfl rfl C hcl hsl E
  have loop : ∀ (d : Nat) (c : Int), c + d = mu r 6 → 0 ≤ c → scG (mu (r + 5)) 32 32 d c = R → V X 0 [some (.ref r)] [] S n (mxM mu r c N) la 0 0 := by
    intro d
    induction d with
    | zero =>
      intro c h1 h2 h3
      have h3 : R = c := h3.symm
      subst h3
      refine V_aload_n C dX9_skips_0 rfl ?_
      refine V_bipush C dX9_skips_1 (by decide +kernel) ?_
      refine V_bipush C dX9_skips_3 (by decide +kernel) ?_
      refine V_callVD (nA := 2) C dX9_skips_5 (u_isAt C.gp hM hR hn (by omega) (by omega) (by omega)) gX9_skips_X9_isAt rfl o9 rfl (by decide +kernel) rfl (by decide) (by decide) (Nat.le_of_ble_eq_true rfl) ⟨by omega, by omega⟩ rfl ?_
      rw [show rAt mu r R 32 32 = 0 by unfold rAt; rw [if_neg (by omega)]]
      refine V_if_eq C 24 dX9_skips_8 (by decide) (by omega) (fun z => ?_) (fun z => ?_)
      · refine V_return C E dX9_skips_24 (by omega) (by omega) ?_
        exact Dt_rfl
      · exact absurd rfl z
    | succ d ih =>
      intro c h1 h2 h3
      rw [scG] at h3
      have br := rAt_b mu r c 32 32
      refine V_aload_n C dX9_skips_0 rfl ?_
      refine V_bipush C dX9_skips_1 (by decide +kernel) ?_
      refine V_bipush C dX9_skips_3 (by decide +kernel) ?_
      refine V_callVD (nA := 2) C dX9_skips_5 (u_isAt C.gp hM hR hn (by omega) (by omega) (by omega)) gX9_skips_X9_isAt rfl o9 rfl (by decide +kernel) rfl (by decide) (by decide) (Nat.le_of_ble_eq_true rfl) ⟨by omega, by omega⟩ rfl ?_
      refine V_if_eq C 24 dX9_skips_8 (by decide) (by omega) (fun z => ?_) (fun z => ?_)
      · rw [if_neg (fun q => by unfold rAt at z; rw [if_pos ⟨by omega, q⟩] at z; omega)] at h3
        subst h3
        refine V_return C E dX9_skips_24 (by omega) (by omega) ?_
        exact Dt_rfl
      · rw [if_pos (rAt_2 (show rAt mu r c 32 32 = 1 by omega))] at h3
        refine V_aload_n C dX9_skips_11 rfl ?_
        refine V_dup C dX9_skips_12 rfl ?_
        refine V_getJ C 20 20 rfl dX9_skips_13 o9 rfl hin_X9_skips_X9 (by decide) lk_X9_skips_289 rfl rfl (mx_c) ?_
        refine V_iconst C dX9_skips_16 ?_
        refine V_iadd C dX9_skips_17 ?_
        refine V_putJ C 20 20 rfl dX9_skips_18 o9 rfl hin_X9_skips_X9 tyX9 tyX9_ok nmX9 (by decide) lk_X9_skips_289 rfl rfl (by decide +kernel) rfl (mxu_c) ?_
        refine V_goto C 0 dX9_skips_21 (by decide) ?_
        exact ih (c + 1) (by omega) (by omega) h3
  exact loop _ c (by omega) hc.1 eR
theorem dX9_manyOf_0 : decode cX9_manyOf 0 = .ok (.lload_n 0, 1) := by decide +kernel
theorem dX9_manyOf_1 : decode cX9_manyOf 1 = .ok (.ldc2_w 295, 3) := by decide +kernel
theorem dX9_manyOf_4 : decode cX9_manyOf 4 = .ok (.lcmp, 1) := by decide +kernel
theorem dX9_manyOf_5 : decode cX9_manyOf 5 = .ok (.ifCond .eq 19, 3) := by decide +kernel
theorem dX9_manyOf_8 : decode cX9_manyOf 8 = .ok (.lload_n 0, 1) := by decide +kernel
theorem dX9_manyOf_9 : decode cX9_manyOf 9 = .ok (.ldc2_w 297, 3) := by decide +kernel
theorem dX9_manyOf_12 : decode cX9_manyOf 12 = .ok (.lcmp, 1) := by decide +kernel
theorem dX9_manyOf_13 : decode cX9_manyOf 13 = .ok (.ifCond .eq 11, 3) := by decide +kernel
theorem dX9_manyOf_16 : decode cX9_manyOf 16 = .ok (.lload_n 0, 1) := by decide +kernel
theorem dX9_manyOf_17 : decode cX9_manyOf 17 = .ok (.ldc2_w 299, 3) := by decide +kernel
theorem dX9_manyOf_20 : decode cX9_manyOf 20 = .ok (.lcmp, 1) := by decide +kernel
theorem dX9_manyOf_21 : decode cX9_manyOf 21 = .ok (.ifCond .ne 5, 3) := by decide +kernel
theorem dX9_manyOf_24 : decode cX9_manyOf 24 = .ok (.iconst 2, 1) := by decide +kernel
theorem dX9_manyOf_25 : decode cX9_manyOf 25 = .ok (.ireturn, 1) := by decide +kernel
theorem dX9_manyOf_26 : decode cX9_manyOf 26 = .ok (.lload_n 0, 1) := by decide +kernel
theorem dX9_manyOf_27 : decode cX9_manyOf 27 = .ok (.ldc2_w 301, 3) := by decide +kernel
theorem dX9_manyOf_30 : decode cX9_manyOf 30 = .ok (.lcmp, 1) := by decide +kernel
theorem dX9_manyOf_31 : decode cX9_manyOf 31 = .ok (.ifCond .eq 19, 3) := by decide +kernel
theorem dX9_manyOf_34 : decode cX9_manyOf 34 = .ok (.lload_n 0, 1) := by decide +kernel
theorem dX9_manyOf_35 : decode cX9_manyOf 35 = .ok (.ldc2_w 303, 3) := by decide +kernel
theorem dX9_manyOf_38 : decode cX9_manyOf 38 = .ok (.lcmp, 1) := by decide +kernel
theorem dX9_manyOf_39 : decode cX9_manyOf 39 = .ok (.ifCond .eq 11, 3) := by decide +kernel
theorem dX9_manyOf_42 : decode cX9_manyOf 42 = .ok (.lload_n 0, 1) := by decide +kernel
theorem dX9_manyOf_43 : decode cX9_manyOf 43 = .ok (.ldc2_w 305, 3) := by decide +kernel
theorem dX9_manyOf_46 : decode cX9_manyOf 46 = .ok (.lcmp, 1) := by decide +kernel
theorem dX9_manyOf_47 : decode cX9_manyOf 47 = .ok (.ifCond .ne 5, 3) := by decide +kernel
theorem dX9_manyOf_50 : decode cX9_manyOf 50 = .ok (.iconst 1, 1) := by decide +kernel
theorem dX9_manyOf_51 : decode cX9_manyOf 51 = .ok (.ireturn, 1) := by decide +kernel
theorem dX9_manyOf_52 : decode cX9_manyOf 52 = .ok (.lload_n 0, 1) := by decide +kernel
theorem dX9_manyOf_53 : decode cX9_manyOf 53 = .ok (.ldc2_w 307, 3) := by decide +kernel
theorem dX9_manyOf_56 : decode cX9_manyOf 56 = .ok (.lcmp, 1) := by decide +kernel
theorem dX9_manyOf_57 : decode cX9_manyOf 57 = .ok (.ifCond .ne 7, 3) := by decide +kernel
theorem dX9_manyOf_60 : decode cX9_manyOf 60 = .ok (.iconst 3, 1) := by decide +kernel
theorem dX9_manyOf_61 : decode cX9_manyOf 61 = .ok (.goto 16, 3) := by decide +kernel
theorem dX9_manyOf_64 : decode cX9_manyOf 64 = .ok (.lload_n 0, 1) := by decide +kernel
theorem dX9_manyOf_65 : decode cX9_manyOf 65 = .ok (.ldc2_w 309, 3) := by decide +kernel
theorem dX9_manyOf_68 : decode cX9_manyOf 68 = .ok (.lcmp, 1) := by decide +kernel
theorem dX9_manyOf_69 : decode cX9_manyOf 69 = .ok (.ifCond .ne 7, 3) := by decide +kernel
theorem dX9_manyOf_72 : decode cX9_manyOf 72 = .ok (.iconst 5, 1) := by decide +kernel
theorem dX9_manyOf_73 : decode cX9_manyOf 73 = .ok (.goto 4, 3) := by decide +kernel
theorem dX9_manyOf_76 : decode cX9_manyOf 76 = .ok (.iconst (-1), 1) := by decide +kernel
theorem dX9_manyOf_77 : decode cX9_manyOf 77 = .ok (.ireturn, 1) := by decide +kernel
theorem u_manyOf (hG : GP G) {v : Int} (hv : 0 ≤ v ∧ v < 1099511627776) : Ct G l yX9_manyOf wsX9_manyOf 0 0 0 [.long (I64 v)] S n mu la (Dt (some (.int (I32 (mnF v)))) S n mu la) := by
  refine Ct.ofV (cc := cX9_manyOf) (nL := 2) (ret := (some .int)) [some (.long (I64 v)), none] hG (by decide) rfl (Nat.le_of_ble_eq_true rfl) rfl ?_
  rintro X rfl rfl C hcl hsl E
  have b := fun y => cmI_b v y
  have b1 := b 1885433445
  have b2 := b 1701078885
  have b3 := b 495672455781
  have b4 := b 427021005669
  have b5 := b 1935767141
  have b6 := b 1819238756
  have b7 := b 1685021547
  have b8 := b 439905902964
  refine V_lload_n C dX9_manyOf_0 rfl ?_
  refine V_ldc2 C (v := 1885433445) dX9_manyOf_1 (by decide +kernel) ?_
  refine V_lcmp C dX9_manyOf_4 ?_
  rw [lcL (y := 1885433445) (by decide +kernel) (by omega) (by omega)]
  refine V_if_eq C 24 dX9_manyOf_5 (by decide) (by omega) (fun z5 => ?_) (fun z5 => ?_)
  · refine V_iconst C dX9_manyOf_24 ?_
    refine V_ireturn C E dX9_manyOf_25 (by omega) (by omega) ?_
    clear b b1 b2 b3 b4 b5 b6 b7 b8
    simp only [cmI_0, ne_eq] at *
    exact Dt_int (by unfold mnF; (repeat' split) <;> omega)
  · refine V_lload_n C dX9_manyOf_8 rfl ?_
    refine V_ldc2 C (v := 1701078885) dX9_manyOf_9 (by decide +kernel) ?_
    refine V_lcmp C dX9_manyOf_12 ?_
    rw [lcL (y := 1701078885) (by decide +kernel) (by omega) (by omega)]
    refine V_if_eq C 24 dX9_manyOf_13 (by decide) (by omega) (fun z13 => ?_) (fun z13 => ?_)
    · refine V_iconst C dX9_manyOf_24 ?_
      refine V_ireturn C E dX9_manyOf_25 (by omega) (by omega) ?_
      clear b b1 b2 b3 b4 b5 b6 b7 b8
      simp only [cmI_0, ne_eq] at *
      exact Dt_int (by unfold mnF; (repeat' split) <;> omega)
    · refine V_lload_n C dX9_manyOf_16 rfl ?_
      refine V_ldc2 C (v := 495672455781) dX9_manyOf_17 (by decide +kernel) ?_
      refine V_lcmp C dX9_manyOf_20 ?_
      rw [lcL (y := 495672455781) (by decide +kernel) (by omega) (by omega)]
      refine V_if_ne C 26 dX9_manyOf_21 (by decide) (by omega) (fun z21 => ?_) (fun z21 => ?_)
      · refine V_lload_n C dX9_manyOf_26 rfl ?_
        refine V_ldc2 C (v := 427021005669) dX9_manyOf_27 (by decide +kernel) ?_
        refine V_lcmp C dX9_manyOf_30 ?_
        rw [lcL (y := 427021005669) (by decide +kernel) (by omega) (by omega)]
        refine V_if_eq C 50 dX9_manyOf_31 (by decide) (by omega) (fun z31 => ?_) (fun z31 => ?_)
        · refine V_iconst C dX9_manyOf_50 ?_
          refine V_ireturn C E dX9_manyOf_51 (by omega) (by omega) ?_
          clear b b1 b2 b3 b4 b5 b6 b7 b8
          simp only [cmI_0, ne_eq] at *
          exact Dt_int (by unfold mnF; (repeat' split) <;> omega)
        · refine V_lload_n C dX9_manyOf_34 rfl ?_
          refine V_ldc2 C (v := 1935767141) dX9_manyOf_35 (by decide +kernel) ?_
          refine V_lcmp C dX9_manyOf_38 ?_
          rw [lcL (y := 1935767141) (by decide +kernel) (by omega) (by omega)]
          refine V_if_eq C 50 dX9_manyOf_39 (by decide) (by omega) (fun z39 => ?_) (fun z39 => ?_)
          · refine V_iconst C dX9_manyOf_50 ?_
            refine V_ireturn C E dX9_manyOf_51 (by omega) (by omega) ?_
            clear b b1 b2 b3 b4 b5 b6 b7 b8
            simp only [cmI_0, ne_eq] at *
            exact Dt_int (by unfold mnF; (repeat' split) <;> omega)
          · refine V_lload_n C dX9_manyOf_42 rfl ?_
            refine V_ldc2 C (v := 1819238756) dX9_manyOf_43 (by decide +kernel) ?_
            refine V_lcmp C dX9_manyOf_46 ?_
            rw [lcL (y := 1819238756) (by decide +kernel) (by omega) (by omega)]
            refine V_if_ne C 52 dX9_manyOf_47 (by decide) (by omega) (fun z47 => ?_) (fun z47 => ?_)
            · refine V_lload_n C dX9_manyOf_52 rfl ?_
              refine V_ldc2 C (v := 1685021547) dX9_manyOf_53 (by decide +kernel) ?_
              refine V_lcmp C dX9_manyOf_56 ?_
              rw [lcL (y := 1685021547) (by decide +kernel) (by omega) (by omega)]
              refine V_if_ne C 64 dX9_manyOf_57 (by decide) (by omega) (fun z57 => ?_) (fun z57 => ?_)
              · refine V_lload_n C dX9_manyOf_64 rfl ?_
                refine V_ldc2 C (v := 439905902964) dX9_manyOf_65 (by decide +kernel) ?_
                refine V_lcmp C dX9_manyOf_68 ?_
                rw [lcL (y := 439905902964) (by decide +kernel) (by omega) (by omega)]
                refine V_if_ne C 76 dX9_manyOf_69 (by decide) (by omega) (fun z69 => ?_) (fun z69 => ?_)
                · refine V_iconst C dX9_manyOf_76 ?_
                  refine V_ireturn C E dX9_manyOf_77 (by omega) (by omega) ?_
                  clear b b1 b2 b3 b4 b5 b6 b7 b8
                  simp only [cmI_0, ne_eq] at *
                  exact Dt_int (by unfold mnF; (repeat' split) <;> omega)
                · refine V_iconst C dX9_manyOf_72 ?_
                  refine V_goto C 77 dX9_manyOf_73 (by decide) ?_
                  refine V_ireturn C E dX9_manyOf_77 (by omega) (by omega) ?_
                  clear b b1 b2 b3 b4 b5 b6 b7 b8
                  simp only [cmI_0, ne_eq] at *
                  exact Dt_int (by unfold mnF; (repeat' split) <;> omega)
              · refine V_iconst C dX9_manyOf_60 ?_
                refine V_goto C 77 dX9_manyOf_61 (by decide) ?_
                refine V_ireturn C E dX9_manyOf_77 (by omega) (by omega) ?_
                clear b b1 b2 b3 b4 b5 b6 b7 b8
                simp only [cmI_0, ne_eq] at *
                exact Dt_int (by unfold mnF; (repeat' split) <;> omega)
            · refine V_iconst C dX9_manyOf_50 ?_
              refine V_ireturn C E dX9_manyOf_51 (by omega) (by omega) ?_
              clear b b1 b2 b3 b4 b5 b6 b7 b8
              simp only [cmI_0, ne_eq] at *
              exact Dt_int (by unfold mnF; (repeat' split) <;> omega)
      · refine V_iconst C dX9_manyOf_24 ?_
        refine V_ireturn C E dX9_manyOf_25 (by omega) (by omega) ?_
        clear b b1 b2 b3 b4 b5 b6 b7 b8
        simp only [cmI_0, ne_eq] at *
        exact Dt_int (by unfold mnF; (repeat' split) <;> omega)
set_option maxRecDepth 20000 in
theorem ggX9_isWord_X9_isAt : GoodIn wsX9_isWord wsX9_isAt := goodIn_r _ [8, 1, 9, 3, 10, 11, 7, 12, 24, 25, 26, 27, 28, 29, 30, 31, 32, 33, 34, 35, 36, 37, 38, 39, 40, 41, 42, 43, 44, 45, 46, 47] (by decide +kernel) (by decide +kernel)
set_option maxRecDepth 20000 in
theorem gX9_isWord_X9_isAt : GoodIn wsX9_isWord (wsV RX9 292 RX9 yX9_isAt wsX9_isAt) := goodIn_app (goodIn_of _ (by decide +kernel)) ggX9_isWord_X9_isAt
set_option maxRecDepth 20000 in
theorem ggX9_isWord_X9_manyOf : GoodIn wsX9_isWord wsX9_manyOf := goodIn_r _ [15, 16, 17, 18, 19, 20, 21, 22, 23] (by decide +kernel) (by decide +kernel)
set_option maxRecDepth 20000 in
theorem gX9_isWord_X9_manyOf : GoodIn wsX9_isWord (va_wsS RX9 315 yX9_manyOf wsX9_manyOf) := goodIn_app (goodIn_of _ (by decide +kernel)) ggX9_isWord_X9_manyOf
theorem dX9_isWord_0 : decode cX9_isWord 0 = .ok (.aload_n 0, 1) := by decide +kernel
theorem dX9_isWord_1 : decode cX9_isWord 1 = .ok (.getfield 289, 3) := by decide +kernel
theorem dX9_isWord_4 : decode cX9_isWord 4 = .ok (.istore_n 1, 1) := by decide +kernel
theorem dX9_isWord_5 : decode cX9_isWord 5 = .ok (.aload_n 0, 1) := by decide +kernel
theorem dX9_isWord_6 : decode cX9_isWord 6 = .ok (.lconst 0, 1) := by decide +kernel
theorem dX9_isWord_7 : decode cX9_isWord 7 = .ok (.putfield 311, 3) := by decide +kernel
theorem dX9_isWord_10 : decode cX9_isWord 10 = .ok (.aload_n 0, 1) := by decide +kernel
theorem dX9_isWord_11 : decode cX9_isWord 11 = .ok (.bipush 97, 2) := by decide +kernel
theorem dX9_isWord_13 : decode cX9_isWord 13 = .ok (.bipush 122, 2) := by decide +kernel
theorem dX9_isWord_15 : decode cX9_isWord 15 = .ok (.invokevirtual 292, 3) := by decide +kernel
theorem dX9_isWord_18 : decode cX9_isWord 18 = .ok (.ifCond .eq 52, 3) := by decide +kernel
theorem dX9_isWord_21 : decode cX9_isWord 21 = .ok (.aload_n 0, 1) := by decide +kernel
theorem dX9_isWord_22 : decode cX9_isWord 22 = .ok (.aload_n 0, 1) := by decide +kernel
theorem dX9_isWord_23 : decode cX9_isWord 23 = .ok (.getfield 289, 3) := by decide +kernel
theorem dX9_isWord_26 : decode cX9_isWord 26 = .ok (.iload_n 1, 1) := by decide +kernel
theorem dX9_isWord_27 : decode cX9_isWord 27 = .ok (.isub, 1) := by decide +kernel
theorem dX9_isWord_28 : decode cX9_isWord 28 = .ok (.iconst 5, 1) := by decide +kernel
theorem dX9_isWord_29 : decode cX9_isWord 29 = .ok (.if_icmp .ge 24, 3) := by decide +kernel
theorem dX9_isWord_32 : decode cX9_isWord 32 = .ok (.aload_n 0, 1) := by decide +kernel
theorem dX9_isWord_33 : decode cX9_isWord 33 = .ok (.getfield 311, 3) := by decide +kernel
theorem dX9_isWord_36 : decode cX9_isWord 36 = .ok (.bipush 8, 2) := by decide +kernel
theorem dX9_isWord_38 : decode cX9_isWord 38 = .ok (.lshl, 1) := by decide +kernel
theorem dX9_isWord_39 : decode cX9_isWord 39 = .ok (.aload_n 0, 1) := by decide +kernel
theorem dX9_isWord_40 : decode cX9_isWord 40 = .ok (.getfield 22, 3) := by decide +kernel
theorem dX9_isWord_43 : decode cX9_isWord 43 = .ok (.aload_n 0, 1) := by decide +kernel
theorem dX9_isWord_44 : decode cX9_isWord 44 = .ok (.getfield 289, 3) := by decide +kernel
theorem dX9_isWord_47 : decode cX9_isWord 47 = .ok (.iaload, 1) := by decide +kernel
theorem dX9_isWord_48 : decode cX9_isWord 48 = .ok (.i2l, 1) := by decide +kernel
theorem dX9_isWord_49 : decode cX9_isWord 49 = .ok (.lor, 1) := by decide +kernel
theorem dX9_isWord_50 : decode cX9_isWord 50 = .ok (.goto 4, 3) := by decide +kernel
theorem dX9_isWord_53 : decode cX9_isWord 53 = .ok (.lconst 0, 1) := by decide +kernel
theorem dX9_isWord_54 : decode cX9_isWord 54 = .ok (.putfield 311, 3) := by decide +kernel
theorem dX9_isWord_57 : decode cX9_isWord 57 = .ok (.aload_n 0, 1) := by decide +kernel
theorem dX9_isWord_58 : decode cX9_isWord 58 = .ok (.dup, 1) := by decide +kernel
theorem dX9_isWord_59 : decode cX9_isWord 59 = .ok (.getfield 289, 3) := by decide +kernel
theorem dX9_isWord_62 : decode cX9_isWord 62 = .ok (.iconst 1, 1) := by decide +kernel
theorem dX9_isWord_63 : decode cX9_isWord 63 = .ok (.iadd, 1) := by decide +kernel
theorem dX9_isWord_64 : decode cX9_isWord 64 = .ok (.putfield 289, 3) := by decide +kernel
theorem dX9_isWord_67 : decode cX9_isWord 67 = .ok (.goto (-57), 3) := by decide +kernel
theorem dX9_isWord_70 : decode cX9_isWord 70 = .ok (.aload_n 0, 1) := by decide +kernel
theorem dX9_isWord_71 : decode cX9_isWord 71 = .ok (.getfield 289, 3) := by decide +kernel
theorem dX9_isWord_74 : decode cX9_isWord 74 = .ok (.iload_n 1, 1) := by decide +kernel
theorem dX9_isWord_75 : decode cX9_isWord 75 = .ok (.isub, 1) := by decide +kernel
theorem dX9_isWord_76 : decode cX9_isWord 76 = .ok (.iconst 5, 1) := by decide +kernel
theorem dX9_isWord_77 : decode cX9_isWord 77 = .ok (.if_icmp .gt 14, 3) := by decide +kernel
theorem dX9_isWord_80 : decode cX9_isWord 80 = .ok (.aload_n 0, 1) := by decide +kernel
theorem dX9_isWord_81 : decode cX9_isWord 81 = .ok (.getfield 311, 3) := by decide +kernel
theorem dX9_isWord_84 : decode cX9_isWord 84 = .ok (.invokestatic 315, 3) := by decide +kernel
theorem dX9_isWord_87 : decode cX9_isWord 87 = .ok (.iconst (-1), 1) := by decide +kernel
theorem dX9_isWord_88 : decode cX9_isWord 88 = .ok (.if_icmp .ne 10, 3) := by decide +kernel
theorem dX9_isWord_91 : decode cX9_isWord 91 = .ok (.aload_n 0, 1) := by decide +kernel
theorem dX9_isWord_92 : decode cX9_isWord 92 = .ok (.iload_n 1, 1) := by decide +kernel
theorem dX9_isWord_93 : decode cX9_isWord 93 = .ok (.putfield 289, 3) := by decide +kernel
theorem dX9_isWord_96 : decode cX9_isWord 96 = .ok (.iconst 0, 1) := by decide +kernel
theorem dX9_isWord_97 : decode cX9_isWord 97 = .ok (.ireturn, 1) := by decide +kernel
theorem dX9_isWord_98 : decode cX9_isWord 98 = .ok (.iconst 1, 1) := by decide +kernel
theorem dX9_isWord_99 : decode cX9_isWord 99 = .ok (.ireturn, 1) := by decide +kernel
theorem hin_X9_isWord_X9 : ∀ w ∈ wsX90, w ∈ wsX9_isWord := by decide +kernel
theorem lk_X9_isWord_289 : Cond.fieldLink RX9 289 RX9 "spot" "I" ∈ wsX9_isWord := by decide +kernel
theorem lk_X9_isWord_311 : Cond.fieldLink RX9 311 RX9 "word" "J" ∈ wsX9_isWord := by decide +kernel
theorem lk_X9_isWord_22 : Cond.fieldLink RX9 22 RX9 "text" "[I" ∈ wsX9_isWord := by decide +kernel
theorem u_isWord (hG : GP G) (hM : MoS S r) (hR : R32 mu) (hn : 0 ≤ mu r 6 ∧ mu r 6 ≤ 150) (hc : 0 ≤ c ∧ c ≤ mu r 6) : Ct G l yX9_isWord wsX9_isWord 2 0 0 [.ref r] S n (mxM mu r c N) la (Dt (some (.int (I32 (iwR mu r c)))) S n (mxM mu r (iwC mu r c) N) (upl la r 21 (I64 (wvF9 mu r c)))) := by
  have o9 := hM.1
  have bw := wcF_b mu r hc
  have bv := wvF9_b mu r c
  have bm := mnF_b (wvF9 mu r c)
  unfold iwC
  generalize eW : wcF mu r c = W at bw
  generalize eV : wvF9 mu r c = Q at bv bm
  have eI : iwR mu r c = if W - c ≤ 5 ∧ mnF Q ≠ -1 then 1 else 0 := by unfold iwR; rw [eW, eV]
  generalize iwR mu r c = I9 at eI
  refine Ct.ofV (cc := cX9_isWord) (nL := 2) (ret := (some .boolean)) [some (.ref r), none] hG (by decide) rfl (Nat.le_of_ble_eq_true rfl) rfl ?_
  rintro X rfl rfl C hcl hsl E
  have bad : I9 = 0 → V X 91 [some (.ref r), some (.int (I32 c))] [] S n (mxM mu r W N) (upl la r 21 (I64 Q)) 0 0 := by
    intro h0
    rw [h0, if_neg (by decide)] at E
    refine V_aload_n C dX9_isWord_91 rfl ?_
    refine V_iload_n C dX9_isWord_92 rfl ?_
    refine V_putJ C 20 20 rfl dX9_isWord_93 o9 rfl hin_X9_isWord_X9 tyX9 tyX9_ok nmX9 (by decide) lk_X9_isWord_289 rfl rfl (by decide +kernel) rfl (mxu_c) ?_
    refine V_iconst C dX9_isWord_96 ?_
    refine V_zreturn C E (by first | exact Or.inl rfl | exact Or.inr rfl | simp) dX9_isWord_97 (by omega) (by omega) ?_
    exact Dt_rfl
  have last : V X 70 [some (.ref r), some (.int (I32 c))] [] S n (mxM mu r W N) (upl la r 21 (I64 Q)) 0 0 := by
    refine V_aload_n C dX9_isWord_70 rfl ?_
    refine V_getJ C 20 20 rfl dX9_isWord_71 o9 rfl hin_X9_isWord_X9 (by decide) lk_X9_isWord_289 rfl rfl (mx_c) ?_
    refine V_iload_n C dX9_isWord_74 rfl ?_
    refine V_isub C dX9_isWord_75 ?_
    refine V_iconst C dX9_isWord_76 ?_
    refine V_icmp_gt C 91 dX9_isWord_77 (by decide) (by omega) (by omega) (fun z => ?_) (fun z => ?_)
    · exact bad (by rw [eI, if_neg (by omega)])
    · refine V_aload_n C dX9_isWord_80 rfl ?_
      refine V_getL C 21 dX9_isWord_81 o9 rfl hin_X9_isWord_X9 (by decide) lk_X9_isWord_311 rfl rfl ?_
      rw [upl_s]
      refine V_callSD (nA := 1) C dX9_isWord_84 (u_manyOf C.gp (by omega)) gX9_isWord_X9_manyOf rfl (by decide +kernel) rfl (by decide) (by decide) (Nat.le_of_ble_eq_true rfl) ⟨by omega, by omega⟩ rfl ?_
      refine V_iconst C dX9_isWord_87 ?_
      refine V_icmp_ne C 98 dX9_isWord_88 (by decide) (by omega) (by omega) (fun z2 => ?_) (fun z2 => ?_)
      · have h1 : I9 = 1 := by rw [eI, if_pos ⟨by omega, z2⟩]
        rw [h1, if_pos rfl] at E
        refine V_iconst C dX9_isWord_98 ?_
        refine V_zreturn C E (by first | exact Or.inl rfl | exact Or.inr rfl | simp) dX9_isWord_99 (by omega) (by omega) ?_
        exact Dt_rfl
      · exact bad (by rw [eI, if_neg (by omega)])
  have loop : ∀ (d : Nat) (k v : Int), k + d = mu r 6 → c ≤ k → pvI c k v → scG (mu (r + 5)) 97 122 d k = W → pvG (mu (r + 5)) c d k v = Q → V X 10 [some (.ref r), some (.int (I32 c))] [] S n (mxM mu r k N) (upl la r 21 (I64 v)) 0 0 := by
    intro d
    induction d with
    | zero =>
      intro k v h1 h2 hv h3 h4
      have hv := pvI_b h2 hv
      have h3 : W = k := h3.symm
      have h4 : Q = v := h4.symm
      subst h3; subst h4
      refine V_aload_n C dX9_isWord_10 rfl ?_
      refine V_bipush C dX9_isWord_11 (by decide +kernel) ?_
      refine V_bipush C dX9_isWord_13 (by decide +kernel) ?_
      refine V_callVD (nA := 2) C dX9_isWord_15 (u_isAt C.gp hM hR hn (by omega) (by omega) (by omega)) gX9_isWord_X9_isAt rfl o9 rfl (by decide +kernel) rfl (by decide) (by decide) (Nat.le_of_ble_eq_true rfl) ⟨by omega, by omega⟩ rfl ?_
      rw [show rAt mu r W 97 122 = 0 by unfold rAt; rw [if_neg (by omega)]]
      refine V_if_eq C 70 dX9_isWord_18 (by decide) (by omega) (fun z => ?_) (fun z => ?_)
      · exact last
      · exact absurd rfl z
    | succ d ih =>
      intro k v h1 h2 hv h3 h4
      rw [scG] at h3
      rw [pvG] at h4
      have hw := pvI_b h2 hv
      have br := rAt_b mu r k 97 122
      have e5 : mxM mu r k N (r + 5) k = mu (r + 5) k := mx_a (by omega) (by omega) k
      refine V_aload_n C dX9_isWord_10 rfl ?_
      refine V_bipush C dX9_isWord_11 (by decide +kernel) ?_
      refine V_bipush C dX9_isWord_13 (by decide +kernel) ?_
      refine V_callVD (nA := 2) C dX9_isWord_15 (u_isAt C.gp hM hR hn (by omega) (by omega) (by omega)) gX9_isWord_X9_isAt rfl o9 rfl (by decide +kernel) rfl (by decide) (by decide) (Nat.le_of_ble_eq_true rfl) ⟨by omega, by omega⟩ rfl ?_
      refine V_if_eq C 70 dX9_isWord_18 (by decide) (by omega) (fun z => ?_) (fun z => ?_)
      · have hq : ¬ (97 ≤ mu (r + 5) k ∧ mu (r + 5) k ≤ 122) := fun q => by unfold rAt at z; rw [if_pos ⟨by omega, q⟩] at z; omega
        rw [if_neg hq] at h3 h4
        have h3 : W = k := h3.symm
        have h4 : Q = v := h4.symm
        subst h3; subst h4
        exact last
      · have hb := rAt_2 (show rAt mu r k 97 122 = 1 by omega)
        rw [if_pos hb] at h3 h4
        refine V_aload_n C dX9_isWord_21 rfl ?_
        refine V_aload_n C dX9_isWord_22 rfl ?_
        refine V_getJ C 20 20 rfl dX9_isWord_23 o9 rfl hin_X9_isWord_X9 (by decide) lk_X9_isWord_289 rfl rfl (mx_c) ?_
        refine V_iload_n C dX9_isWord_26 rfl ?_
        refine V_isub C dX9_isWord_27 ?_
        refine V_iconst C dX9_isWord_28 ?_
        refine V_icmp_ge C 53 dX9_isWord_29 (by decide) (by omega) (by omega) (fun z2 => ?_) (fun z2 => ?_)
        · rw [if_neg (by omega)] at h4
          refine V_lconst C dX9_isWord_53 rfl ?_
          refine V_putL C 21 dX9_isWord_54 o9 rfl hin_X9_isWord_X9 tyX9 tyX9_ok nmX9 (by decide) lk_X9_isWord_311 rfl rfl (by decide +kernel) rfl ?_
          rw [upl_upl, show Int64.ofNat ((0 : Fin 2) : Nat) = I64 0 from rfl]
          refine V_aload_n C dX9_isWord_57 rfl ?_
          refine V_dup C dX9_isWord_58 rfl ?_
          refine V_getJ C 20 20 rfl dX9_isWord_59 o9 rfl hin_X9_isWord_X9 (by decide) lk_X9_isWord_289 rfl rfl (mx_c) ?_
          refine V_iconst C dX9_isWord_62 ?_
          refine V_iadd C dX9_isWord_63 ?_
          refine V_putJ C 20 20 rfl dX9_isWord_64 o9 rfl hin_X9_isWord_X9 tyX9 tyX9_ok nmX9 (by decide) lk_X9_isWord_289 rfl rfl (by decide +kernel) rfl (mxu_c) ?_
          refine V_goto C 10 dX9_isWord_67 (by decide) ?_
          exact ih (k + 1) 0 (by omega) (by omega) (pvI_0 (by omega)) h3 h4
        · rw [if_pos (by omega)] at h4
          refine V_aload_n C dX9_isWord_32 rfl ?_
          refine V_getL C 21 dX9_isWord_33 o9 rfl hin_X9_isWord_X9 (by decide) lk_X9_isWord_311 rfl rfl ?_
          refine V_bipush C dX9_isWord_36 (by decide +kernel) ?_
          refine V_lshl C dX9_isWord_38 ?_
          refine V_aload_n C dX9_isWord_39 rfl ?_
          refine V_getR C 5 dX9_isWord_40 o9 rfl hin_X9_isWord_X9 (by decide) lk_X9_isWord_22 rfl rfl ?_
          refine V_aload_n C dX9_isWord_43 rfl ?_
          refine V_getJ C 20 20 rfl dX9_isWord_44 o9 rfl hin_X9_isWord_X9 (by decide) lk_X9_isWord_289 rfl rfl (mx_c) ?_
          refine V_ialdJ C dX9_isWord_47 hM.2.2.2.2.2.1 (by first | assumption | decide) (by omega) e5 ?_
          refine V_i2l C dX9_isWord_48 ?_
          refine V_lor C dX9_isWord_49 ?_
          rw [upl_s, pkw_eq (by omega) (by omega)]
          refine V_goto C 54 dX9_isWord_50 (by decide) ?_
          refine V_putL C 21 dX9_isWord_54 o9 rfl hin_X9_isWord_X9 tyX9 tyX9_ok nmX9 (by decide) lk_X9_isWord_311 rfl rfl (by decide +kernel) rfl ?_
          rw [upl_upl]
          refine V_aload_n C dX9_isWord_57 rfl ?_
          refine V_dup C dX9_isWord_58 rfl ?_
          refine V_getJ C 20 20 rfl dX9_isWord_59 o9 rfl hin_X9_isWord_X9 (by decide) lk_X9_isWord_289 rfl rfl (mx_c) ?_
          refine V_iconst C dX9_isWord_62 ?_
          refine V_iadd C dX9_isWord_63 ?_
          refine V_putJ C 20 20 rfl dX9_isWord_64 o9 rfl hin_X9_isWord_X9 tyX9 tyX9_ok nmX9 (by decide) lk_X9_isWord_289 rfl rfl (by decide +kernel) rfl (mxu_c) ?_
          refine V_goto C 10 dX9_isWord_67 (by decide) ?_
          exact ih (k + 1) _ (by omega) (by omega) (pvI_s h2 hv (by omega) (by omega)) h3 h4
  refine V_aload_n C dX9_isWord_0 rfl ?_
  refine V_getJ C 20 20 rfl dX9_isWord_1 o9 rfl hin_X9_isWord_X9 (by decide) lk_X9_isWord_289 rfl rfl (mx_c) ?_
  refine V_istore_n C dX9_isWord_4 rfl (by decide) ?_
  refine V_aload_n C dX9_isWord_5 rfl ?_
  refine V_lconst C dX9_isWord_6 rfl ?_
  refine V_putL C 21 dX9_isWord_7 o9 rfl hin_X9_isWord_X9 tyX9 tyX9_ok nmX9 (by decide) lk_X9_isWord_311 rfl rfl (by decide +kernel) rfl ?_
  rw [show Int64.ofNat ((0 : Fin 2) : Nat) = I64 0 from rfl]
  exact loop _ c 0 (by omega) (by omega) ⟨by omega, fun _ => by simp, fun _ => rfl⟩ eW eV
set_option maxRecDepth 20000 in
theorem ggX9_isNumber_X9_isAt : GoodIn wsX9_isNumber wsX9_isAt := goodIn_r _ [8, 1, 9, 3, 10, 11, 7, 12, 17, 18, 19, 20, 21, 22, 23, 24, 25, 26, 27, 28, 29, 30, 31, 32, 33, 34, 35, 36, 37, 38, 39, 40] (by decide +kernel) (by decide +kernel)
set_option maxRecDepth 20000 in
theorem gX9_isNumber_X9_isAt : GoodIn wsX9_isNumber (wsV RX9 292 RX9 yX9_isAt wsX9_isAt) := goodIn_app (goodIn_of _ (by decide +kernel)) ggX9_isNumber_X9_isAt
set_option maxRecDepth 20000 in
theorem ggX9_isNumber_X9_skips : GoodIn wsX9_isNumber wsX9_skips := goodIn_r _ [16, 1, 4, 5, 6, 7, 8, 9, 3, 10, 11, 12, 17, 18, 19, 20, 21, 22, 23, 24, 25, 26, 27, 28, 29, 30, 31, 32, 33, 34, 35, 36, 37, 38, 39, 40] (by decide +kernel) (by decide +kernel)
set_option maxRecDepth 20000 in
theorem gX9_isNumber_X9_skips : GoodIn wsX9_isNumber (wsV RX9 319 RX9 yX9_skips wsX9_skips) := goodIn_app (goodIn_of _ (by decide +kernel)) ggX9_isNumber_X9_skips
theorem dX9_isNumber_0 : decode cX9_isNumber 0 = .ok (.aload_n 0, 1) := by decide +kernel
theorem dX9_isNumber_1 : decode cX9_isNumber 1 = .ok (.bipush 32, 2) := by decide +kernel
theorem dX9_isNumber_3 : decode cX9_isNumber 3 = .ok (.bipush 32, 2) := by decide +kernel
theorem dX9_isNumber_5 : decode cX9_isNumber 5 = .ok (.invokevirtual 292, 3) := by decide +kernel
theorem dX9_isNumber_8 : decode cX9_isNumber 8 = .ok (.ifCond .ne 5, 3) := by decide +kernel
theorem dX9_isNumber_11 : decode cX9_isNumber 11 = .ok (.iconst 0, 1) := by decide +kernel
theorem dX9_isNumber_12 : decode cX9_isNumber 12 = .ok (.ireturn, 1) := by decide +kernel
theorem dX9_isNumber_13 : decode cX9_isNumber 13 = .ok (.aload_n 0, 1) := by decide +kernel
theorem dX9_isNumber_14 : decode cX9_isNumber 14 = .ok (.invokevirtual 319, 3) := by decide +kernel
theorem dX9_isNumber_17 : decode cX9_isNumber 17 = .ok (.aload_n 0, 1) := by decide +kernel
theorem dX9_isNumber_18 : decode cX9_isNumber 18 = .ok (.getfield 289, 3) := by decide +kernel
theorem dX9_isNumber_21 : decode cX9_isNumber 21 = .ok (.istore_n 2, 1) := by decide +kernel
theorem dX9_isNumber_22 : decode cX9_isNumber 22 = .ok (.aload_n 0, 1) := by decide +kernel
theorem dX9_isNumber_23 : decode cX9_isNumber 23 = .ok (.getfield 55, 3) := by decide +kernel
theorem dX9_isNumber_26 : decode cX9_isNumber 26 = .ok (.iload_n 1, 1) := by decide +kernel
theorem dX9_isNumber_27 : decode cX9_isNumber 27 = .ok (.iconst 0, 1) := by decide +kernel
theorem dX9_isNumber_28 : decode cX9_isNumber 28 = .ok (.iastore, 1) := by decide +kernel
theorem dX9_isNumber_29 : decode cX9_isNumber 29 = .ok (.aload_n 0, 1) := by decide +kernel
theorem dX9_isNumber_30 : decode cX9_isNumber 30 = .ok (.getfield 289, 3) := by decide +kernel
theorem dX9_isNumber_33 : decode cX9_isNumber 33 = .ok (.iload_n 2, 1) := by decide +kernel
theorem dX9_isNumber_34 : decode cX9_isNumber 34 = .ok (.isub, 1) := by decide +kernel
theorem dX9_isNumber_35 : decode cX9_isNumber 35 = .ok (.iconst 3, 1) := by decide +kernel
theorem dX9_isNumber_36 : decode cX9_isNumber 36 = .ok (.if_icmp .ge 55, 3) := by decide +kernel
theorem dX9_isNumber_39 : decode cX9_isNumber 39 = .ok (.aload_n 0, 1) := by decide +kernel
theorem dX9_isNumber_40 : decode cX9_isNumber 40 = .ok (.bipush 48, 2) := by decide +kernel
theorem dX9_isNumber_42 : decode cX9_isNumber 42 = .ok (.bipush 57, 2) := by decide +kernel
theorem dX9_isNumber_44 : decode cX9_isNumber 44 = .ok (.invokevirtual 292, 3) := by decide +kernel
theorem dX9_isNumber_47 : decode cX9_isNumber 47 = .ok (.ifCond .eq 44, 3) := by decide +kernel
theorem dX9_isNumber_50 : decode cX9_isNumber 50 = .ok (.aload_n 0, 1) := by decide +kernel
theorem dX9_isNumber_51 : decode cX9_isNumber 51 = .ok (.getfield 55, 3) := by decide +kernel
theorem dX9_isNumber_54 : decode cX9_isNumber 54 = .ok (.iload_n 1, 1) := by decide +kernel
theorem dX9_isNumber_55 : decode cX9_isNumber 55 = .ok (.bipush 10, 2) := by decide +kernel
theorem dX9_isNumber_57 : decode cX9_isNumber 57 = .ok (.aload_n 0, 1) := by decide +kernel
theorem dX9_isNumber_58 : decode cX9_isNumber 58 = .ok (.getfield 55, 3) := by decide +kernel
theorem dX9_isNumber_61 : decode cX9_isNumber 61 = .ok (.iload_n 1, 1) := by decide +kernel
theorem dX9_isNumber_62 : decode cX9_isNumber 62 = .ok (.iaload, 1) := by decide +kernel
theorem dX9_isNumber_63 : decode cX9_isNumber 63 = .ok (.imul, 1) := by decide +kernel
theorem dX9_isNumber_64 : decode cX9_isNumber 64 = .ok (.aload_n 0, 1) := by decide +kernel
theorem dX9_isNumber_65 : decode cX9_isNumber 65 = .ok (.getfield 22, 3) := by decide +kernel
theorem dX9_isNumber_68 : decode cX9_isNumber 68 = .ok (.aload_n 0, 1) := by decide +kernel
theorem dX9_isNumber_69 : decode cX9_isNumber 69 = .ok (.getfield 289, 3) := by decide +kernel
theorem dX9_isNumber_72 : decode cX9_isNumber 72 = .ok (.iaload, 1) := by decide +kernel
theorem dX9_isNumber_73 : decode cX9_isNumber 73 = .ok (.iadd, 1) := by decide +kernel
theorem dX9_isNumber_74 : decode cX9_isNumber 74 = .ok (.bipush 48, 2) := by decide +kernel
theorem dX9_isNumber_76 : decode cX9_isNumber 76 = .ok (.isub, 1) := by decide +kernel
theorem dX9_isNumber_77 : decode cX9_isNumber 77 = .ok (.iastore, 1) := by decide +kernel
theorem dX9_isNumber_78 : decode cX9_isNumber 78 = .ok (.aload_n 0, 1) := by decide +kernel
theorem dX9_isNumber_79 : decode cX9_isNumber 79 = .ok (.dup, 1) := by decide +kernel
theorem dX9_isNumber_80 : decode cX9_isNumber 80 = .ok (.getfield 289, 3) := by decide +kernel
theorem dX9_isNumber_83 : decode cX9_isNumber 83 = .ok (.iconst 1, 1) := by decide +kernel
theorem dX9_isNumber_84 : decode cX9_isNumber 84 = .ok (.iadd, 1) := by decide +kernel
theorem dX9_isNumber_85 : decode cX9_isNumber 85 = .ok (.putfield 289, 3) := by decide +kernel
theorem dX9_isNumber_88 : decode cX9_isNumber 88 = .ok (.goto (-59), 3) := by decide +kernel
theorem dX9_isNumber_91 : decode cX9_isNumber 91 = .ok (.aload_n 0, 1) := by decide +kernel
theorem dX9_isNumber_92 : decode cX9_isNumber 92 = .ok (.getfield 289, 3) := by decide +kernel
theorem dX9_isNumber_95 : decode cX9_isNumber 95 = .ok (.iload_n 2, 1) := by decide +kernel
theorem dX9_isNumber_96 : decode cX9_isNumber 96 = .ok (.if_icmp .le 18, 3) := by decide +kernel
theorem dX9_isNumber_99 : decode cX9_isNumber 99 = .ok (.aload_n 0, 1) := by decide +kernel
theorem dX9_isNumber_100 : decode cX9_isNumber 100 = .ok (.bipush 48, 2) := by decide +kernel
theorem dX9_isNumber_102 : decode cX9_isNumber 102 = .ok (.bipush 57, 2) := by decide +kernel
theorem dX9_isNumber_104 : decode cX9_isNumber 104 = .ok (.invokevirtual 292, 3) := by decide +kernel
theorem dX9_isNumber_107 : decode cX9_isNumber 107 = .ok (.ifCond .ne 7, 3) := by decide +kernel
theorem dX9_isNumber_110 : decode cX9_isNumber 110 = .ok (.iconst 1, 1) := by decide +kernel
theorem dX9_isNumber_111 : decode cX9_isNumber 111 = .ok (.goto 4, 3) := by decide +kernel
theorem dX9_isNumber_114 : decode cX9_isNumber 114 = .ok (.iconst 0, 1) := by decide +kernel
theorem dX9_isNumber_115 : decode cX9_isNumber 115 = .ok (.ireturn, 1) := by decide +kernel
theorem hin_X9_isNumber_X9 : ∀ w ∈ wsX90, w ∈ wsX9_isNumber := by decide +kernel
theorem lk_X9_isNumber_289 : Cond.fieldLink RX9 289 RX9 "spot" "I" ∈ wsX9_isNumber := by decide +kernel
theorem lk_X9_isNumber_55 : Cond.fieldLink RX9 55 RX9 "numbers" "[I" ∈ wsX9_isNumber := by decide +kernel
theorem lk_X9_isNumber_22 : Cond.fieldLink RX9 22 RX9 "text" "[I" ∈ wsX9_isNumber := by decide +kernel
theorem u_isNumber (hG : GP G) (hM : MoS S r) (hR : R32 mu) (hn : 0 ≤ mu r 6 ∧ mu r 6 ≤ 150) (hc : 0 ≤ c ∧ c ≤ mu r 6) {k : Int} (hk : 0 ≤ k ∧ k < 5) : Ct G l yX9_isNumber wsX9_isNumber 3 0 0 [.ref r, .int (I32 k)] S n (mxM mu r c N) la (Dt (some (.int (I32 (nmF mu r k c N).1))) S n (mxM mu r (nmF mu r k c N).2.1 (nmF mu r k c N).2.2) la) := by
  have o9 := hM.1
  have h16 := hM.2.2.2.2.2.2.2.2.2
  have br := rAt_b mu r c 32 32
  have bk := kF_b mu r hc
  unfold nmF
  refine Ct.ofV (cc := cX9_isNumber) (nL := 3) (ret := (some .boolean)) [some (.ref r), some (.int (I32 k)), none] hG (by decide) rfl (Nat.le_of_ble_eq_true rfl) rfl ?_
  rintro X rfl rfl C hcl hsl E
  refine V_aload_n C dX9_isNumber_0 rfl ?_
  refine V_bipush C dX9_isNumber_1 (by decide +kernel) ?_
  refine V_bipush C dX9_isNumber_3 (by decide +kernel) ?_
  refine V_callVD (nA := 2) C dX9_isNumber_5 (u_isAt C.gp hM hR hn hc (by omega) (by omega)) gX9_isNumber_X9_isAt rfl o9 rfl (by decide +kernel) rfl (by decide) (by decide) (Nat.le_of_ble_eq_true rfl) ⟨by omega, by omega⟩ rfl ?_
  refine V_if_ne C 13 dX9_isNumber_8 (by decide) (by omega) (fun z => ?_) (fun z => ?_)
  · rw [if_pos (by omega)] at E
    refine V_aload_n C dX9_isNumber_13 rfl ?_
    refine V_callVD (nA := 0) C dX9_isNumber_14 (u_skips C.gp hM hR hn hc) gX9_isNumber_X9_skips rfl o9 rfl (by decide +kernel) rfl (by decide) (by decide) (Nat.le_of_ble_eq_true rfl) ⟨by omega, by omega⟩ rfl ?_
    generalize kF mu r c = c1 at bk E
    generalize eD : rgG mu r 3 c1 0 = D at E
    have loop : ∀ (d : Nat) (u v : Int), (u - c1) + d = 3 → c1 ≤ u ∧ u ≤ mu r 6 → rgG mu r d u v = D → V X 29 [some (.ref r), some (.int (I32 k)), some (.int (I32 c1))] [] S n (mxM mu r u (fun j => if j = k then v else N j)) la 0 0 := by
      intro d
      have fin : ∀ (u v : Int), c1 ≤ u ∧ u ≤ mu r 6 → D = (u, v) → V X 91 [some (.ref r), some (.int (I32 k)), some (.int (I32 c1))] [] S n (mxM mu r u (fun j => if j = k then v else N j)) la 0 0 := by
        intro u v h1 hD
        subst hD
        dsimp only at E
        have b2 := rAt_b mu r u 48 57
        refine V_aload_n C dX9_isNumber_91 rfl ?_
        refine V_getJ C 20 20 rfl dX9_isNumber_92 o9 rfl hin_X9_isNumber_X9 (by decide) lk_X9_isNumber_289 rfl rfl (mx_c) ?_
        refine V_iload_n C dX9_isNumber_95 rfl ?_
        refine V_icmp_le C 114 dX9_isNumber_96 (by decide) (by omega) (by omega) (fun z2 => ?_) (fun z2 => ?_)
        · rw [if_neg (by omega)] at E
          refine V_iconst C dX9_isNumber_114 ?_
          refine V_zreturn C E (by first | exact Or.inl rfl | exact Or.inr rfl | simp) dX9_isNumber_115 (by omega) (by omega) ?_
          exact Dt_rfl
        · refine V_aload_n C dX9_isNumber_99 rfl ?_
          refine V_bipush C dX9_isNumber_100 (by decide +kernel) ?_
          refine V_bipush C dX9_isNumber_102 (by decide +kernel) ?_
          refine V_callVD (nA := 2) C dX9_isNumber_104 (u_isAt C.gp hM hR hn (by omega) (by omega) (by omega)) gX9_isNumber_X9_isAt rfl o9 rfl (by decide +kernel) rfl (by decide) (by decide) (Nat.le_of_ble_eq_true rfl) ⟨by omega, by omega⟩ rfl ?_
          refine V_if_ne C 114 dX9_isNumber_107 (by decide) (by omega) (fun z3 => ?_) (fun z3 => ?_)
          · rw [if_neg (by omega)] at E
            refine V_iconst C dX9_isNumber_114 ?_
            refine V_zreturn C E (by first | exact Or.inl rfl | exact Or.inr rfl | simp) dX9_isNumber_115 (by omega) (by omega) ?_
            exact Dt_rfl
          · rw [if_pos (by omega)] at E
            refine V_iconst C dX9_isNumber_110 ?_
            refine V_goto C 115 dX9_isNumber_111 (by decide) ?_
            refine V_zreturn C E (by first | exact Or.inl rfl | exact Or.inr rfl | simp) dX9_isNumber_115 (by omega) (by omega) ?_
            exact Dt_rfl
      induction d with
      | zero =>
        intro u v h1 h2 h3
        refine V_aload_n C dX9_isNumber_29 rfl ?_
        refine V_getJ C 20 20 rfl dX9_isNumber_30 o9 rfl hin_X9_isNumber_X9 (by decide) lk_X9_isNumber_289 rfl rfl (mx_c) ?_
        refine V_iload_n C dX9_isNumber_33 rfl ?_
        refine V_isub C dX9_isNumber_34 ?_
        refine V_iconst C dX9_isNumber_35 ?_
        refine V_icmp_ge C 91 dX9_isNumber_36 (by decide) (by omega) (by omega) (fun z2 => ?_) (fun z2 => ?_)
        · exact fin u v h2 h3.symm
        · exact absurd z2 (by omega)
      | succ d ih =>
        intro u v h1 h2 h3
        rw [rgG] at h3
        have b2 := rAt_b mu r u 48 57
        have e5 : ∀ N9, mxM mu r u N9 (r + 5) u = mu (r + 5) u := fun N9 => mx_a (by omega) (by omega) u
        refine V_aload_n C dX9_isNumber_29 rfl ?_
        refine V_getJ C 20 20 rfl dX9_isNumber_30 o9 rfl hin_X9_isNumber_X9 (by decide) lk_X9_isNumber_289 rfl rfl (mx_c) ?_
        refine V_iload_n C dX9_isNumber_33 rfl ?_
        refine V_isub C dX9_isNumber_34 ?_
        refine V_iconst C dX9_isNumber_35 ?_
        refine V_icmp_ge C 91 dX9_isNumber_36 (by decide) (by omega) (by omega) (fun z2 => ?_) (fun z2 => ?_)
        · exact absurd z2 (by omega)
        · refine V_aload_n C dX9_isNumber_39 rfl ?_
          refine V_bipush C dX9_isNumber_40 (by decide +kernel) ?_
          refine V_bipush C dX9_isNumber_42 (by decide +kernel) ?_
          refine V_callVD (nA := 2) C dX9_isNumber_44 (u_isAt C.gp hM hR hn (by omega) (by omega) (by omega)) gX9_isNumber_X9_isAt rfl o9 rfl (by decide +kernel) rfl (by decide) (by decide) (Nat.le_of_ble_eq_true rfl) ⟨by omega, by omega⟩ rfl ?_
          refine V_if_eq C 91 dX9_isNumber_47 (by decide) (by omega) (fun z3 => ?_) (fun z3 => ?_)
          · rw [if_neg (by omega)] at h3
            exact fin u v h2 h3.symm
          · rw [if_pos (by omega)] at h3
            have hlt := rAt_lt (show rAt mu r u 48 57 = 1 by omega)
            refine V_aload_n C dX9_isNumber_50 rfl ?_
            refine V_getR C 22 dX9_isNumber_51 o9 rfl hin_X9_isNumber_X9 (by decide) lk_X9_isNumber_55 rfl rfl ?_
            refine V_iload_n C dX9_isNumber_54 rfl ?_
            refine V_bipush C dX9_isNumber_55 (by decide +kernel) ?_
            refine V_aload_n C dX9_isNumber_57 rfl ?_
            refine V_getR C 22 dX9_isNumber_58 o9 rfl hin_X9_isNumber_X9 (by decide) lk_X9_isNumber_55 rfl rfl ?_
            refine V_iload_n C dX9_isNumber_61 rfl ?_
            refine V_ialdJ C dX9_isNumber_62 h16 (by decide) (by omega) (x := v) (mx_n.trans (if_pos rfl)) ?_
            refine V_imul C dX9_isNumber_63 ?_
            refine V_aload_n C dX9_isNumber_64 rfl ?_
            refine V_getR C 5 dX9_isNumber_65 o9 rfl hin_X9_isNumber_X9 (by decide) lk_X9_isNumber_22 rfl rfl ?_
            refine V_aload_n C dX9_isNumber_68 rfl ?_
            refine V_getJ C 20 20 rfl dX9_isNumber_69 o9 rfl hin_X9_isNumber_X9 (by decide) lk_X9_isNumber_289 rfl rfl (mx_c) ?_
            refine V_ialdJ C dX9_isNumber_72 hM.2.2.2.2.2.1 (by first | assumption | decide) (by omega) (e5 _) ?_
            refine V_iadd C dX9_isNumber_73 ?_
            refine V_bipush C dX9_isNumber_74 (by decide +kernel) ?_
            refine V_isub C dX9_isNumber_76 ?_
            refine V_iastJ C dX9_isNumber_77 h16 (by decide) (by omega) (mu' := mxM mu r u (fun j => if j = k then 10 * v + mu (r + 5) u - 48 else N j)) (mxu_n.trans (by
              congr 1
              funext j
              by_cases q : j = k
              · rw [if_pos q, if_pos q]
              · rw [if_neg q, if_neg q, if_neg q])) ?_
            refine V_aload_n C dX9_isNumber_78 rfl ?_
            refine V_dup C dX9_isNumber_79 rfl ?_
            refine V_getJ C 20 20 rfl dX9_isNumber_80 o9 rfl hin_X9_isNumber_X9 (by decide) lk_X9_isNumber_289 rfl rfl (mx_c) ?_
            refine V_iconst C dX9_isNumber_83 ?_
            refine V_iadd C dX9_isNumber_84 ?_
            refine V_putJ C 20 20 rfl dX9_isNumber_85 o9 rfl hin_X9_isNumber_X9 tyX9 tyX9_ok nmX9 (by decide) lk_X9_isNumber_289 rfl rfl (by decide +kernel) rfl (mxu_c) ?_
            refine V_goto C 29 dX9_isNumber_88 (by decide) ?_
            exact ih (u + 1) _ (by omega) (by omega) h3
    refine V_aload_n C dX9_isNumber_17 rfl ?_
    refine V_getJ C 20 20 rfl dX9_isNumber_18 o9 rfl hin_X9_isNumber_X9 (by decide) lk_X9_isNumber_289 rfl rfl (mx_c) ?_
    refine V_istore_n C dX9_isNumber_21 rfl (by decide) ?_
    refine V_aload_n C dX9_isNumber_22 rfl ?_
    refine V_getR C 22 dX9_isNumber_23 o9 rfl hin_X9_isNumber_X9 (by decide) lk_X9_isNumber_55 rfl rfl ?_
    refine V_iload_n C dX9_isNumber_26 rfl ?_
    refine V_iconst C dX9_isNumber_27 ?_
    refine V_iastJ C dX9_isNumber_28 h16 (by first | assumption | decide) (by omega) (mxu_n) ?_
    exact loop 3 c1 0 (by omega) (by omega) eD
  · rw [if_neg (by omega)] at E
    refine V_iconst C dX9_isNumber_11 ?_
    refine V_zreturn C E (by first | exact Or.inl rfl | exact Or.inr rfl | simp) dX9_isNumber_12 (by omega) (by omega) ?_
    exact Dt_rfl
set_option maxRecDepth 20000 in
theorem ggX9_isCommand_X9_isWord : GoodIn wsX9_isCommand wsX9_isWord := goodIn_r _ [7, 2, 1, 8, 9, 10, 11, 6, 12, 13, 14, 15, 16, 17, 18, 19, 20, 21, 22, 23, 24, 25, 26, 27, 37, 38, 39, 40, 41, 42, 43, 44, 45, 46, 47, 48, 49, 50, 51, 52, 53, 54, 55, 56, 57, 58, 59, 60] (by decide +kernel) (by decide +kernel)
set_option maxRecDepth 20000 in
theorem gX9_isCommand_X9_isWord : GoodIn wsX9_isCommand (wsV RX9 322 RX9 yX9_isWord wsX9_isWord) := goodIn_app (goodIn_of _ (by decide +kernel)) ggX9_isCommand_X9_isWord
set_option maxRecDepth 20000 in
theorem ggX9_isCommand_X9_manyOf : GoodIn wsX9_isCommand wsX9_manyOf := goodIn_r _ [19, 20, 21, 22, 23, 24, 25, 26, 27] (by decide +kernel) (by decide +kernel)
set_option maxRecDepth 20000 in
theorem gX9_isCommand_X9_manyOf : GoodIn wsX9_isCommand (va_wsS RX9 315 yX9_manyOf wsX9_manyOf) := goodIn_app (goodIn_of _ (by decide +kernel)) ggX9_isCommand_X9_manyOf
set_option maxRecDepth 20000 in
theorem ggX9_isCommand_X9_isNumber : GoodIn wsX9_isCommand wsX9_isNumber := goodIn_r _ [31, 2, 32, 8, 9, 10, 11, 6, 12, 13, 14, 15, 16, 33, 34, 35, 36, 37, 38, 39, 40, 41, 42, 43, 44, 45, 46, 47, 48, 49, 50, 51, 52, 53, 54, 55, 56, 57, 58, 59, 60] (by decide +kernel) (by decide +kernel)
set_option maxRecDepth 20000 in
theorem gX9_isCommand_X9_isNumber : GoodIn wsX9_isCommand (wsV RX9 326 RX9 yX9_isNumber wsX9_isNumber) := goodIn_app (goodIn_of _ (by decide +kernel)) ggX9_isCommand_X9_isNumber
set_option maxRecDepth 20000 in
theorem ggX9_isCommand_X9_skips : GoodIn wsX9_isCommand wsX9_skips := goodIn_r _ [36, 2, 9, 10, 11, 6, 12, 13, 8, 14, 15, 16, 37, 38, 39, 40, 41, 42, 43, 44, 45, 46, 47, 48, 49, 50, 51, 52, 53, 54, 55, 56, 57, 58, 59, 60] (by decide +kernel) (by decide +kernel)
set_option maxRecDepth 20000 in
theorem gX9_isCommand_X9_skips : GoodIn wsX9_isCommand (wsV RX9 319 RX9 yX9_skips wsX9_skips) := goodIn_app (goodIn_of _ (by decide +kernel)) ggX9_isCommand_X9_skips
set_option maxRecDepth 20000 in
theorem ggX9_isCommand_X9_isAt : GoodIn wsX9_isCommand wsX9_isAt := goodIn_r _ [12, 2, 13, 8, 14, 15, 6, 16, 37, 38, 39, 40, 41, 42, 43, 44, 45, 46, 47, 48, 49, 50, 51, 52, 53, 54, 55, 56, 57, 58, 59, 60] (by decide +kernel) (by decide +kernel)
set_option maxRecDepth 20000 in
theorem gX9_isCommand_X9_isAt : GoodIn wsX9_isCommand (wsV RX9 292 RX9 yX9_isAt wsX9_isAt) := goodIn_app (goodIn_of _ (by decide +kernel)) ggX9_isCommand_X9_isAt
theorem dX9_isCommand_0 : decode cX9_isCommand 0 = .ok (.aload_n 0, 1) := by decide +kernel
theorem dX9_isCommand_1 : decode cX9_isCommand 1 = .ok (.invokevirtual 322, 3) := by decide +kernel
theorem dX9_isCommand_4 : decode cX9_isCommand 4 = .ok (.ifCond .ne 5, 3) := by decide +kernel
theorem dX9_isCommand_7 : decode cX9_isCommand 7 = .ok (.iconst 0, 1) := by decide +kernel
theorem dX9_isCommand_8 : decode cX9_isCommand 8 = .ok (.ireturn, 1) := by decide +kernel
theorem dX9_isCommand_9 : decode cX9_isCommand 9 = .ok (.aload_n 0, 1) := by decide +kernel
theorem dX9_isCommand_10 : decode cX9_isCommand 10 = .ok (.getfield 311, 3) := by decide +kernel
theorem dX9_isCommand_13 : decode cX9_isCommand 13 = .ok (.invokestatic 315, 3) := by decide +kernel
theorem dX9_isCommand_16 : decode cX9_isCommand 16 = .ok (.istore_n 1, 1) := by decide +kernel
theorem dX9_isCommand_17 : decode cX9_isCommand 17 = .ok (.iconst 0, 1) := by decide +kernel
theorem dX9_isCommand_18 : decode cX9_isCommand 18 = .ok (.istore_n 2, 1) := by decide +kernel
theorem dX9_isCommand_19 : decode cX9_isCommand 19 = .ok (.iload_n 2, 1) := by decide +kernel
theorem dX9_isCommand_20 : decode cX9_isCommand 20 = .ok (.iload_n 1, 1) := by decide +kernel
theorem dX9_isCommand_21 : decode cX9_isCommand 21 = .ok (.if_icmp .ge 19, 3) := by decide +kernel
theorem dX9_isCommand_24 : decode cX9_isCommand 24 = .ok (.aload_n 0, 1) := by decide +kernel
theorem dX9_isCommand_25 : decode cX9_isCommand 25 = .ok (.iload_n 2, 1) := by decide +kernel
theorem dX9_isCommand_26 : decode cX9_isCommand 26 = .ok (.invokevirtual 326, 3) := by decide +kernel
theorem dX9_isCommand_29 : decode cX9_isCommand 29 = .ok (.ifCond .ne 5, 3) := by decide +kernel
theorem dX9_isCommand_32 : decode cX9_isCommand 32 = .ok (.iconst 0, 1) := by decide +kernel
theorem dX9_isCommand_33 : decode cX9_isCommand 33 = .ok (.ireturn, 1) := by decide +kernel
theorem dX9_isCommand_34 : decode cX9_isCommand 34 = .ok (.iinc 2 1, 3) := by decide +kernel
theorem dX9_isCommand_37 : decode cX9_isCommand 37 = .ok (.goto (-18), 3) := by decide +kernel
theorem dX9_isCommand_40 : decode cX9_isCommand 40 = .ok (.aload_n 0, 1) := by decide +kernel
theorem dX9_isCommand_41 : decode cX9_isCommand 41 = .ok (.invokevirtual 319, 3) := by decide +kernel
theorem dX9_isCommand_44 : decode cX9_isCommand 44 = .ok (.aload_n 0, 1) := by decide +kernel
theorem dX9_isCommand_45 : decode cX9_isCommand 45 = .ok (.bipush 59, 2) := by decide +kernel
theorem dX9_isCommand_47 : decode cX9_isCommand 47 = .ok (.bipush 59, 2) := by decide +kernel
theorem dX9_isCommand_49 : decode cX9_isCommand 49 = .ok (.invokevirtual 292, 3) := by decide +kernel
theorem dX9_isCommand_52 : decode cX9_isCommand 52 = .ok (.ifCond .ne 5, 3) := by decide +kernel
theorem dX9_isCommand_55 : decode cX9_isCommand 55 = .ok (.iconst 0, 1) := by decide +kernel
theorem dX9_isCommand_56 : decode cX9_isCommand 56 = .ok (.ireturn, 1) := by decide +kernel
theorem dX9_isCommand_57 : decode cX9_isCommand 57 = .ok (.aload_n 0, 1) := by decide +kernel
theorem dX9_isCommand_58 : decode cX9_isCommand 58 = .ok (.dup, 1) := by decide +kernel
theorem dX9_isCommand_59 : decode cX9_isCommand 59 = .ok (.getfield 289, 3) := by decide +kernel
theorem dX9_isCommand_62 : decode cX9_isCommand 62 = .ok (.iconst 1, 1) := by decide +kernel
theorem dX9_isCommand_63 : decode cX9_isCommand 63 = .ok (.iadd, 1) := by decide +kernel
theorem dX9_isCommand_64 : decode cX9_isCommand 64 = .ok (.putfield 289, 3) := by decide +kernel
theorem dX9_isCommand_67 : decode cX9_isCommand 67 = .ok (.aload_n 0, 1) := by decide +kernel
theorem dX9_isCommand_68 : decode cX9_isCommand 68 = .ok (.invokevirtual 319, 3) := by decide +kernel
theorem dX9_isCommand_71 : decode cX9_isCommand 71 = .ok (.iconst 1, 1) := by decide +kernel
theorem dX9_isCommand_72 : decode cX9_isCommand 72 = .ok (.ireturn, 1) := by decide +kernel
theorem hin_X9_isCommand_X9 : ∀ w ∈ wsX90, w ∈ wsX9_isCommand := by decide +kernel
theorem lk_X9_isCommand_311 : Cond.fieldLink RX9 311 RX9 "word" "J" ∈ wsX9_isCommand := by decide +kernel
theorem lk_X9_isCommand_289 : Cond.fieldLink RX9 289 RX9 "spot" "I" ∈ wsX9_isCommand := by decide +kernel
theorem u_isCommand (hG : GP G) (hM : MoS S r) (hR : R32 mu) (hn : 0 ≤ mu r 6 ∧ mu r 6 ≤ 150) (hc : 0 ≤ c ∧ c ≤ mu r 6) : Ct G l yX9_isCommand wsX9_isCommand 4 0 0 [.ref r] S n (mxM mu r c N) la (Dt (some (.int (I32 (cmF mu r c N).1))) S n (mxM mu r (cmF mu r c N).2.1 (cmF mu r c N).2.2.2) (upl la r 21 (I64 (cmF mu r c N).2.2.1))) := by
  have o9 := hM.1
  have bi : 0 ≤ iwR mu r c ∧ iwR mu r c ≤ 1 := by unfold iwR; split <;> omega
  have bw := wcF_b mu r hc
  have bv := wvF9_b mu r c
  have bm := mnF_b (wvF9 mu r c)
  unfold cmF
  refine Ct.ofV (cc := cX9_isCommand) (nL := 3) (ret := (some .boolean)) [some (.ref r), none, none] hG (by decide) rfl (Nat.le_of_ble_eq_true rfl) rfl ?_
  rintro X rfl rfl C hcl hsl E
  refine V_aload_n C dX9_isCommand_0 rfl ?_
  refine V_callVD (nA := 0) C dX9_isCommand_1 (u_isWord C.gp hM hR hn hc) gX9_isCommand_X9_isWord rfl o9 rfl (by decide +kernel) rfl (by decide) (by decide) (Nat.le_of_ble_eq_true rfl) ⟨by omega, by omega⟩ rfl ?_
  refine V_if_ne C 9 dX9_isCommand_4 (by decide) (by omega) (fun z => ?_) (fun z => ?_)
  · have h1 : iwR mu r c = 1 := by omega
    have hmn : 0 ≤ mnF (wvF9 mu r c) := by unfold iwR at h1; split at h1 <;> omega
    rw [if_pos h1] at E
    rw [show iwC mu r c = wcF mu r c by unfold iwC; rw [if_pos h1]]
    refine V_aload_n C dX9_isCommand_9 rfl ?_
    refine V_getL C 21 dX9_isCommand_10 o9 rfl hin_X9_isCommand_X9 (by decide) lk_X9_isCommand_311 rfl rfl ?_
    rw [upl_s]
    refine V_callSD (nA := 1) C dX9_isCommand_13 (u_manyOf C.gp bv) gX9_isCommand_X9_manyOf rfl (by decide +kernel) rfl (by decide) (by decide) (Nat.le_of_ble_eq_true rfl) ⟨by omega, by omega⟩ rfl ?_
    generalize wcF mu r c = c1 at bw E
    generalize wvF9 mu r c = Q at bv bm hmn E
    generalize eX : nlG mu r (mnF Q).toNat 0 c1 N = Y at E
    have loop : ∀ (d : Nat) (k u : Int) (N9 : Int → Int), k + d = mnF Q → 0 ≤ k → (0 ≤ u ∧ u ≤ mu r 6) → nlG mu r d k u N9 = Y → V X 19 [some (.ref r), some (.int (I32 (mnF Q))), some (.int (I32 k))] [] S n (mxM mu r u N9) (upl la r 21 (I64 Q)) 0 0 := by
      intro d
      induction d with
      | zero =>
        intro k u N9 k1 k2 k3 k4
        have k4 : Y = (1, u, N9) := k4.symm
        subst k4
        unfold cmA at E
        rw [if_pos rfl] at E
        dsimp only at E
        have b4 := kF_b mu r k3
        have b5 := rAt_b mu r (kF mu r u) 59 59
        refine V_iload_n C dX9_isCommand_19 rfl ?_
        refine V_iload_n C dX9_isCommand_20 rfl ?_
        refine V_icmp_ge C 40 dX9_isCommand_21 (by decide) (by omega) (by omega) (fun z2 => ?_) (fun z2 => ?_)
        · refine V_aload_n C dX9_isCommand_40 rfl ?_
          refine V_callVD (nA := 0) C dX9_isCommand_41 (u_skips C.gp hM hR hn k3) gX9_isCommand_X9_skips rfl o9 rfl (by decide +kernel) rfl (by decide) (by decide) (Nat.le_of_ble_eq_true rfl) ⟨by omega, by omega⟩ rfl ?_
          refine V_aload_n C dX9_isCommand_44 rfl ?_
          refine V_bipush C dX9_isCommand_45 (by decide +kernel) ?_
          refine V_bipush C dX9_isCommand_47 (by decide +kernel) ?_
          refine V_callVD (nA := 2) C dX9_isCommand_49 (u_isAt C.gp hM hR hn (by omega) (by omega) (by omega)) gX9_isCommand_X9_isAt rfl o9 rfl (by decide +kernel) rfl (by decide) (by decide) (Nat.le_of_ble_eq_true rfl) ⟨by omega, by omega⟩ rfl ?_
          refine V_if_ne C 57 dX9_isCommand_52 (by decide) (by omega) (fun z3 => ?_) (fun z3 => ?_)
          · have h6 : rAt mu r (kF mu r u) 59 59 = 1 := by omega
            have h7 := rAt_lt h6
            rw [if_pos h6] at E
            refine V_aload_n C dX9_isCommand_57 rfl ?_
            refine V_dup C dX9_isCommand_58 rfl ?_
            refine V_getJ C 20 20 rfl dX9_isCommand_59 o9 rfl hin_X9_isCommand_X9 (by decide) lk_X9_isCommand_289 rfl rfl (mx_c) ?_
            refine V_iconst C dX9_isCommand_62 ?_
            refine V_iadd C dX9_isCommand_63 ?_
            refine V_putJ C 20 20 rfl dX9_isCommand_64 o9 rfl hin_X9_isCommand_X9 tyX9 tyX9_ok nmX9 (by decide) lk_X9_isCommand_289 rfl rfl (by decide +kernel) rfl (mxu_c) ?_
            refine V_aload_n C dX9_isCommand_67 rfl ?_
            refine V_callVD (nA := 0) C dX9_isCommand_68 (u_skips C.gp hM hR hn (by omega)) gX9_isCommand_X9_skips rfl o9 rfl (by decide +kernel) rfl (by decide) (by decide) (Nat.le_of_ble_eq_true rfl) ⟨by omega, by omega⟩ rfl ?_
            refine V_iconst C dX9_isCommand_71 ?_
            refine V_zreturn C E (by first | exact Or.inl rfl | exact Or.inr rfl | simp) dX9_isCommand_72 (by omega) (by omega) ?_
            exact Dt_rfl
          · rw [if_neg (by omega)] at E
            refine V_iconst C dX9_isCommand_55 ?_
            refine V_zreturn C E (by first | exact Or.inl rfl | exact Or.inr rfl | simp) dX9_isCommand_56 (by omega) (by omega) ?_
            exact Dt_rfl
        · exact absurd z2 (by omega)
      | succ d ih =>
        intro k u N9 k1 k2 k3 k4
        rw [nlG] at k4
        have bN := nmF_b mu r k N9 k3
        refine V_iload_n C dX9_isCommand_19 rfl ?_
        refine V_iload_n C dX9_isCommand_20 rfl ?_
        refine V_icmp_ge C 40 dX9_isCommand_21 (by decide) (by omega) (by omega) (fun z2 => ?_) (fun z2 => ?_)
        · exact absurd z2 (by omega)
        · refine V_aload_n C dX9_isCommand_24 rfl ?_
          refine V_iload_n C dX9_isCommand_25 rfl ?_
          refine V_callVD (nA := 1) C dX9_isCommand_26 (u_isNumber C.gp hM hR hn k3 (by omega)) gX9_isCommand_X9_isNumber rfl o9 rfl (by decide +kernel) rfl (by decide) (by decide) (Nat.le_of_ble_eq_true rfl) ⟨by omega, by omega⟩ rfl ?_
          refine V_if_ne C 34 dX9_isCommand_29 (by decide) (by omega) (fun z3 => ?_) (fun z3 => ?_)
          · rw [if_pos (by omega)] at k4
            refine V_iinc C dX9_isCommand_34 rfl rfl (by decide) ?_
            refine V_goto C 19 dX9_isCommand_37 (by decide) ?_
            exact ih (k + 1) _ _ (by omega) (by omega) (by omega) k4
          · rw [if_neg (by omega)] at k4
            subst k4
            unfold cmA at E
            dsimp only at E
            first | rw [if_neg (show ¬ (0 : Int) = 1 by decide)] at E | skip
            refine V_iconst C dX9_isCommand_32 ?_
            refine V_zreturn C E (by first | exact Or.inl rfl | exact Or.inr rfl | simp) dX9_isCommand_33 (by omega) (by omega) ?_
            exact Dt_rfl
    refine V_istore_n C dX9_isCommand_16 rfl (by decide) ?_
    refine V_iconst C dX9_isCommand_17 ?_
    refine V_istore_n C dX9_isCommand_18 rfl (by decide) ?_
    exact loop (mnF Q).toNat 0 c1 N (by omega) (by omega) (by omega) eX
  · have h0 : ¬ iwR mu r c = 1 := by omega
    rw [if_neg h0] at E
    rw [show iwC mu r c = c by unfold iwC; rw [if_neg h0]]
    refine V_iconst C dX9_isCommand_7 ?_
    refine V_zreturn C E (by first | exact Or.inl rfl | exact Or.inr rfl | simp) dX9_isCommand_8 (by omega) (by omega) ?_
    exact Dt_rfl
end ME
