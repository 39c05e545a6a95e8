/-! TEXTS OF COMMANDS. The text's object t: bytes t + 1, numbers t + 2; length 2, cursor 3, fault 4, command 5 (0 none, else its number and 1) -/
def scG (B : Int → Int) (lo hi : Int) : Nat → Int → Int
  | 0, c => c
  | d + 1, c => if lo ≤ B c ∧ B c ≤ hi then scG B lo hi d (c + 1) else c
def tB (mu : Mem) (t : Nat) : Int → Int := fun i => gK mu (t + 1) 150 i
def txM (mu : Mem) (t : Nat) (c f k : Int) (N : Int → Int) : Mem := fun a i => if a = t then (if i = 3 then c else if i = 4 then f else if i = 5 then k else mu a i) else if a = t + 2 then N i else mu a i
theorem tx_2 {mu : Mem} {t : Nat} {c f k : Int} {N : Int → Int} : txM mu t c f k N t 2 = mu t 2 := by simp [txM]
theorem tx_3 {mu : Mem} {t : Nat} {c f k : Int} {N : Int → Int} : txM mu t c f k N t 3 = c := by simp [txM]
theorem tx_4 {mu : Mem} {t : Nat} {c f k : Int} {N : Int → Int} : txM mu t c f k N t 4 = f := by simp [txM]
theorem tx_5 {mu : Mem} {t : Nat} {c f k : Int} {N : Int → Int} : txM mu t c f k N t 5 = k := by simp [txM]
theorem txu_3 {mu : Mem} {t : Nat} {c f k v : Int} {N : Int → Int} : up (txM mu t c f k N) t 3 v = txM mu t v f k N := by
  funext a i; simp only [up, txM]; (repeat' split) <;> first | rfl | omega
theorem txu_4 {mu : Mem} {t : Nat} {c f k v : Int} {N : Int → Int} : up (txM mu t c f k N) t 4 v = txM mu t c v k N := by
  funext a i; simp only [up, txM]; (repeat' split) <;> first | rfl | omega
theorem txu_5 {mu : Mem} {t : Nat} {c f k v : Int} {N : Int → Int} : up (txM mu t c f k N) t 5 v = txM mu t c f v N := by
  funext a i; simp only [up, txM]; (repeat' split) <;> first | rfl | omega
theorem tx_self (mu : Mem) (t : Nat) : txM mu t (mu t 3) (mu t 4) (mu t 5) (mu (t + 2)) = mu := by
  funext a i
  unfold txM
  by_cases h : a = t
  · subst h
    simp only [if_true]
    (repeat' split) <;> first | rfl | (subst_vars; rfl)
  · rw [if_neg h]
    split
    · rename_i e; subst e; rfl
    · rfl
theorem txg {mu : Mem} {t : Nat} {c f k : Int} {N : Int → Int} (i : Int) : gK (txM mu t c f k N) (t + 1) 150 i = gK mu (t + 1) 150 i := by
  unfold gK atF txM
  split
  · rw [if_neg (by omega), if_neg (by omega)]
  · rfl
theorem txn {mu : Mem} {t : Nat} {c f k : Int} {N : Int → Int} {i v : Int} (hi : 0 ≤ i ∧ i < 5) (hv : -2147483648 ≤ v ∧ v ≤ 2147483647) : sK (txM mu t c f k N) (t + 2) 5 i v = txM mu t c f k (fun j => if j = i then v else N j) := by
  unfold sK puF
  rw [wr_id (by omega), wr_id hv, if_pos (by omega)]
  funext a j
  unfold up txM
  by_cases h : a = t + 2
  · subst h
    by_cases h2 : j = i
    · subst h2; simp
    · simp [h2]
  · rw [if_neg (fun z => h z.1)]
    split
    · rfl
    · rfl
def tH (mu : Mem) (t : Nat) (c : Int) : Int := if c < mu t 2 then tB mu t c else -1
def skF (mu : Mem) (t : Nat) (c : Int) : Int := scG (tB mu t) 32 32 (mu t 2 - c).toNat c
def wdF (mu : Mem) (t : Nat) (c : Int) : Int := scG (tB mu t) 97 122 (mu t 2 - c).toNat c
theorem scG_b (B : Int → Int) (lo hi : Int) : ∀ (d : Nat) (c : Int), c ≤ scG B lo hi d c ∧ scG B lo hi d c ≤ c + d
  | 0, c => by simp [scG]
  | d + 1, c => by
    have h := scG_b B lo hi d (c + 1)
    rw [scG]
    split <;> omega
theorem skF_b (mu : Mem) (t : Nat) {c : Int} (h : 0 ≤ c ∧ c ≤ mu t 2) : c ≤ skF mu t c ∧ skF mu t c ≤ mu t 2 := by
  have := scG_b (tB mu t) 32 32 (mu t 2 - c).toNat c
  unfold skF
  omega
theorem wdF_b (mu : Mem) (t : Nat) {c : Int} (h : 0 ≤ c ∧ c ≤ mu t 2) : c ≤ wdF mu t c ∧ wdF mu t c ≤ mu t 2 := by
  have := scG_b (tB mu t) 97 122 (mu t 2 - c).toNat c
  unfold wdF
  omega
theorem tB_R {mu : Mem} (hR : R32 mu) (t : Nat) (c : Int) : -2147483648 ≤ tB mu t c ∧ tB mu t c ≤ 2147483647 := R32_gK hR _ _ _
theorem tH_R {mu : Mem} (hR : R32 mu) (t : Nat) (c : Int) : -2147483648 ≤ tH mu t c ∧ tH mu t c ≤ 2147483647 := by
  have := tB_R hR t c
  unfold tH
  split <;> omega
/-- a word of letters w stands at i -/
def eqG (B : Int → Int) : List Int → Int → Bool
  | [], _ => true
  | x :: r, i => if B i = x then eqG B r (i + 1) else false
def iwF (mu : Mem) (t : Nat) (c u : Int) (k : Nat) : Int := if ((eRw k).length : Int) = c - u ∧ eqG (tB mu t) (eRw k) u = true then 1 else 0
def wrdG (mu : Mem) (t : Nat) (c u : Int) : Nat → Int
  | 0 => 0
  | j + 1 => if iwF mu t c u j = 1 then (j : Int) + 1 else wrdG mu t c u j
theorem iwF_b (mu : Mem) (t : Nat) (c u : Int) (k : Nat) : 0 ≤ iwF mu t c u k ∧ iwF mu t c u k ≤ 1 := by unfold iwF; split <;> omega
theorem wrdG_b (mu : Mem) (t : Nat) (c u : Int) : ∀ k, 0 ≤ wrdG mu t c u k ∧ wrdG mu t c u k ≤ k
  | 0 => by simp [wrdG]
  | j + 1 => by
    have := wrdG_b mu t c u j
    rw [wrdG]
    split <;> omega
def dgG (mu : Mem) (t : Nat) : Nat → Int → Int → Int × Int
  | 0, c, v => (c, v)
  | d + 1, c, v => if 48 ≤ tH mu t c ∧ tH mu t c ≤ 57 then dgG mu t d (c + 1) (10 * v + tH mu t c - 48) else (c, v)
theorem dgG_b (mu : Mem) (t : Nat) : ∀ (d : Nat) (c v : Int), (0 ≤ c ∧ c ≤ mu t 2) → c ≤ (dgG mu t d c v).1 ∧ (dgG mu t d c v).1 ≤ mu t 2
  | 0, c, v, h => by simp only [dgG]; omega
  | d + 1, c, v, h => by
    rw [dgG]
    split
    · rename_i z
      have hc : c < mu t 2 := by unfold tH at z; split at z <;> omega
      have := dgG_b mu t d (c + 1) (10 * v + tH mu t c - 48) (by omega)
      omega
    · simp only []; omega
def rmF (mu : Mem) (t : Nat) (i c : Int) (N : Int → Int) : Int × Int × (Int → Int) :=
  if tH mu t c = 32 then ((dgG mu t 3 (skF mu t (c + 1)) 0).1, (if (dgG mu t 3 (skF mu t (c + 1)) 0).1 = skF mu t (c + 1) then skF mu t (c + 1) else -1), fun j => if j = i then (dgG mu t 3 (skF mu t (c + 1)) 0).2 else N j) else (c, c, N)
theorem tH_lt {mu : Mem} {t : Nat} {c v : Int} (h : tH mu t c = v) (hv : v ≠ -1) : c < mu t 2 := by
  unfold tH at h
  split at h
  · assumption
  · omega
theorem rmF_b (mu : Mem) (t : Nat) (i : Int) {c : Int} (N : Int → Int) (h : 0 ≤ c ∧ c ≤ mu t 2) : (c ≤ (rmF mu t i c N).1 ∧ (rmF mu t i c N).1 ≤ mu t 2) ∧ (-1 ≤ (rmF mu t i c N).2.1 ∧ (rmF mu t i c N).2.1 ≤ mu t 2) := by
  unfold rmF
  split
  · rename_i z
    have h1 := tH_lt z (by omega)
    have h2 := skF_b mu t (c := c + 1) (by omega)
    have h3 := dgG_b mu t 3 (skF mu t (c + 1)) 0 (by omega)
    refine ⟨by dsimp only; omega, ?_⟩
    dsimp only
    split <;> omega
  · dsimp only
    omega
def rlG (mu : Mem) (t : Nat) : Nat → Int → Int → Int → (Int → Int) → Int × Int × (Int → Int)
  | 0, _, c, f, N => (c, f, N)
  | d + 1, i, c, f, N => if f = -1 then rlG mu t d (i + 1) (rmF mu t i c N).1 (rmF mu t i c N).2.1 (rmF mu t i c N).2.2 else (c, f, N)
theorem rlG_b (mu : Mem) (t : Nat) : ∀ (d : Nat) (i c f : Int) (N : Int → Int), (0 ≤ c ∧ c ≤ mu t 2) → (-1 ≤ f ∧ f ≤ mu t 2) → (c ≤ (rlG mu t d i c f N).1 ∧ (rlG mu t d i c f N).1 ≤ mu t 2) ∧ (-1 ≤ (rlG mu t d i c f N).2.1 ∧ (rlG mu t d i c f N).2.1 ≤ mu t 2)
  | 0, i, c, f, N, h, h2 => by simp only [rlG]; omega
  | d + 1, i, c, f, N, h, h2 => by
    rw [rlG]
    split
    · have h3 := rmF_b mu t i N h
      have := rlG_b mu t d (i + 1) (rmF mu t i c N).1 (rmF mu t i c N).2.1 (rmF mu t i c N).2.2 (by omega) (by omega)
      omega
    · dsimp only; omega
def enN (k : Int) : Int := if k ≤ 0 then 0 else eRn (k - 1).toNat
theorem eRn_b (k : Nat) : 0 ≤ eRn k ∧ eRn k ≤ 5 := by unfold eRn; split <;> decide
theorem enN_b (k : Int) : 0 ≤ enN k ∧ enN k ≤ 5 := by
  have := eRn_b (k - 1).toNat
  unfold enN
  split <;> omega
abbrev Tx : Type := Int × Int × Int × (Int → Int)
/-- the next command, from cursor c on: (whether there is one, cursor, fault, command, numbers) -/
def rnA (mu : Mem) (t : Nat) (k : Int) (x : Int × Int × (Int → Int)) : Int × Tx :=
  if x.2.1 = -1 then (if tH mu t (skF mu t x.1) = 59 then (1, skF mu t x.1 + 1, -1, k, x.2.2) else (0, skF mu t x.1, skF mu t x.1, k, x.2.2)) else (0, x.1, x.2.1, k, x.2.2)
def rnB (mu : Mem) (t : Nat) (c1 : Int) (N : Int → Int) : Int × Tx :=
  rnA mu t (wrdG mu t (wdF mu t c1) c1 8) (rlG mu t (enN (wrdG mu t (wdF mu t c1) c1 8)).toNat 0 (wdF mu t c1) (if wrdG mu t (wdF mu t c1) c1 8 = 0 then c1 else -1) N)
def rnF (mu : Mem) (t : Nat) (c k : Int) (N : Int → Int) : Int × Tx :=
  if mu t 2 ≤ skF mu t c then (0, skF mu t c, -1, k, N) else rnB mu t (skF mu t c) N
theorem rnF_b (mu : Mem) (t : Nat) {c : Int} (k : Int) (N : Int → Int) (h : 0 ≤ c ∧ c ≤ mu t 2) (hk : 0 ≤ k ∧ k ≤ 8) : (0 ≤ (rnF mu t c k N).2.1 ∧ (rnF mu t c k N).2.1 ≤ mu t 2) ∧ (0 ≤ (rnF mu t c k N).2.2.2.1 ∧ (rnF mu t c k N).2.2.2.1 ≤ 8) ∧ (0 ≤ (rnF mu t c k N).1 ∧ (rnF mu t c k N).1 ≤ 1) ∧ ((rnF mu t c k N).1 = 1 → (rnF mu t c k N).2.2.1 = -1 ∧ c < (rnF mu t c k N).2.1) ∧ (-1 ≤ (rnF mu t c k N).2.2.1 ∧ (rnF mu t c k N).2.2.1 ≤ mu t 2) := by
  have h1 := skF_b mu t h
  unfold rnF
  split
  · dsimp only; omega
  · unfold rnB
    have h2 := wdF_b mu t (c := skF mu t c) (by omega)
    have h3 := wrdG_b mu t (wdF mu t (skF mu t c)) (skF mu t c) 8
    generalize wrdG mu t (wdF mu t (skF mu t c)) (skF mu t c) 8 = k' at h3
    have h4 := rlG_b mu t (enN k').toNat 0 (wdF mu t (skF mu t c)) (if k' = 0 then skF mu t c else -1) N (by omega) (by split <;> omega)
    generalize rlG mu t (enN k').toNat 0 (wdF mu t (skF mu t c)) (if k' = 0 then skF mu t c else -1) N = x at h4
    have h5 := skF_b mu t (c := x.1) (by omega)
    unfold rnA
    split
    · split
      · rename_i z
        have := tH_lt z (by omega)
        dsimp only; omega
      · dsimp only; omega
    · dsimp only; omega
section VTx
variable {X : Cx} {cc : ByteArray} {Ts : List Cond} {own : String} {ret : Option FieldType} {fr nL : Nat} {pc : Nat} {r : Rg} {st : List Value} {S : Sh} {n : Nat} {mu : Mem} {la : Lam} {k sl : Nat}
theorem V_aload_nN (C : Ok X cc Ts own ret fr nL) {i : Fin 4} (hd : decode cc pc = .ok (.aload_n i, 1))
    (hg : rG r i = some .null) (kk : V X (pc + 1) r (.null :: st) S n mu la k sl) : V X pc r st S n mu la k sl := fun H locs ls hH hS hl => lv_aload_nN C.1 C.2.1 hd rfl (lv_rG hl hg) (kk H locs ls hH hS hl)
end VTx
section TX
variable {G : Gx} {l : Launch} {S : Sh} {n : Nat} {mu : Mem} {la : Lam} {t : Nat} {c f k : Int} {N : Int → Int}
set_option maxRecDepth 20000 in
theorem ggX2_here_X8_at : GoodIn wsX2_here wsX8_at := goodIn_r _ [6] (by decide +kernel) (by decide +kernel)
set_option maxRecDepth 20000 in
theorem gX2_here_X8_at_n49 : GoodIn wsX2_here (wsX8_at) := ggX2_here_X8_at
theorem dX2_here_0 : decode cX2_here 0 = .ok (.aload_n 0, 1) := by decide +kernel
theorem dX2_here_1 : decode cX2_here 1 = .ok (.getfield 42, 3) := by decide +kernel
theorem dX2_here_4 : decode cX2_here 4 = .ok (.aload_n 0, 1) := by decide +kernel
theorem dX2_here_5 : decode cX2_here 5 = .ok (.getfield 22, 3) := by decide +kernel
theorem dX2_here_8 : decode cX2_here 8 = .ok (.if_icmp .ge 17, 3) := by decide +kernel
theorem dX2_here_11 : decode cX2_here 11 = .ok (.aload_n 0, 1) := by decide +kernel
theorem dX2_here_12 : decode cX2_here 12 = .ok (.getfield 9, 3) := by decide +kernel
theorem dX2_here_15 : decode cX2_here 15 = .ok (.aload_n 0, 1) := by decide +kernel
theorem dX2_here_16 : decode cX2_here 16 = .ok (.getfield 42, 3) := by decide +kernel
theorem dX2_here_19 : decode cX2_here 19 = .ok (.invokestatic 49, 3) := by decide +kernel
theorem dX2_here_22 : decode cX2_here 22 = .ok (.goto 4, 3) := by decide +kernel
theorem dX2_here_25 : decode cX2_here 25 = .ok (.iconst (-1), 1) := by decide +kernel
theorem dX2_here_26 : decode cX2_here 26 = .ok (.ireturn, 1) := by decide +kernel
theorem hin_X2_here_X2 : ∀ w ∈ wsX20, w ∈ wsX2_here := by decide +kernel
theorem lk_X2_here_42 : Cond.fieldLink RX2 42 RX2 "cursor" "I" ∈ wsX2_here := by decide +kernel
theorem lk_X2_here_22 : Cond.fieldLink RX2 22 RX2 "length" "I" ∈ wsX2_here := by decide +kernel
theorem lk_X2_here_9 : Cond.fieldLink RX2 9 RX2 "bytes" "[I" ∈ wsX2_here := by decide +kernel
theorem t_here (hG : GP G) (hT : TxS S t) (hn : 0 ≤ mu t 2 ∧ mu t 2 ≤ 150) (hc : 0 ≤ c ∧ c ≤ mu t 2) : Ct G l yX2_here wsX2_here 1 0 0 [.ref t] S n (txM mu t c f k N) la (Dt (some (.int (I32 (tH mu t c)))) S n (txM mu t c f k N) la) := by
  have o2 := hT.1
  refine Ct.ofV (cc := cX2_here) (nL := 1) (ret := (some .int)) [some (.ref t)] hG (by decide) rfl (Nat.le_of_ble_eq_true rfl) rfl ?_
  rintro X rfl rfl C hcl hsl E
  refine V_aload_n C dX2_here_0 rfl ?_
  refine V_getJ C 3 3 rfl dX2_here_1 o2 rfl hin_X2_here_X2 (by decide) lk_X2_here_42 rfl rfl (by first | exact tx_2 | exact tx_3) ?_
  refine V_aload_n C dX2_here_4 rfl ?_
  refine V_getJ C 2 2 rfl dX2_here_5 o2 rfl hin_X2_here_X2 (by decide) lk_X2_here_22 rfl rfl (by first | exact tx_2 | exact tx_3) ?_
  refine V_icmp_ge C 25 dX2_here_8 (by decide) (by omega) (by omega) (fun z8 => ?_) (fun z8 => ?_)
  · refine V_iconst C dX2_here_25 ?_
    refine V_ireturn C E dX2_here_26 (by omega) (by omega) ?_
    exact Dt_int (by unfold tH tB; (repeat' split) <;> first | rfl | omega)
  · refine V_aload_n C dX2_here_11 rfl ?_
    refine V_getR C 0 dX2_here_12 o2 rfl hin_X2_here_X2 (by decide) lk_X2_here_9 rfl rfl ?_
    refine V_aload_n C dX2_here_15 rfl ?_
    refine V_getJ C 3 3 rfl dX2_here_16 o2 rfl hin_X2_here_X2 (by decide) lk_X2_here_42 rfl rfl (by first | exact tx_2 | exact tx_3) ?_
    refine V_callSND (nA := 2) (host := "DockTree") C dX2_here_19 (c_atW C.gp hT.2.1 (by decide)) gX2_here_X8_at_n49 (by decide +kernel) (by decide +kernel) (by decide +kernel) rfl (by decide +kernel) rfl (by decide) (by decide) (Nat.le_of_ble_eq_true rfl) ⟨by omega, by omega⟩ rfl ?_
    rw [txg]
    refine V_goto C 26 dX2_here_22 (by decide) ?_
    refine V_ireturn C E dX2_here_26 (by omega) (by omega) ?_
    exact Dt_int (by unfold tH tB; (repeat' split) <;> first | rfl | omega)
theorem dX2_startReading_0 : decode cX2_startReading 0 = .ok (.aload_n 0, 1) := by decide +kernel
theorem dX2_startReading_1 : decode cX2_startReading 1 = .ok (.iconst 0, 1) := by decide +kernel
theorem dX2_startReading_2 : decode cX2_startReading 2 = .ok (.putfield 42, 3) := by decide +kernel
theorem dX2_startReading_5 : decode cX2_startReading 5 = .ok (.aload_n 0, 1) := by decide +kernel
theorem dX2_startReading_6 : decode cX2_startReading 6 = .ok (.iconst (-1), 1) := by decide +kernel
theorem dX2_startReading_7 : decode cX2_startReading 7 = .ok (.putfield 18, 3) := by decide +kernel
theorem dX2_startReading_10 : decode cX2_startReading 10 = .ok (.return_, 1) := by decide +kernel
theorem hin_X2_startReading_X2 : ∀ w ∈ wsX20, w ∈ wsX2_startReading := by decide +kernel
theorem lk_X2_startReading_42 : Cond.fieldLink RX2 42 RX2 "cursor" "I" ∈ wsX2_startReading := by decide +kernel
theorem lk_X2_startReading_18 : Cond.fieldLink RX2 18 RX2 "fault" "I" ∈ wsX2_startReading := by decide +kernel
theorem t_startReading (hG : GP G) (hT : TxS S t) : Ct G l yX2_startReading wsX2_startReading 0 0 0 [.ref t] S n (txM mu t c f k N) la (Dt none S n (txM mu t 0 (-1) k N) la) := by
  have o2 := hT.1
  refine Ct.ofV (cc := cX2_startReading) (nL := 1) (ret := none) [some (.ref t)] hG (by decide) rfl (Nat.le_of_ble_eq_true rfl) rfl ?_
  rintro X rfl rfl C hcl hsl E
  refine V_aload_n C dX2_startReading_0 rfl ?_
  refine V_iconst C dX2_startReading_1 ?_
  refine V_putJ C 3 3 rfl dX2_startReading_2 o2 rfl hin_X2_startReading_X2 tyX2 tyX2_ok nmX2 (by decide) lk_X2_startReading_42 rfl rfl (by decide +kernel) rfl (by first | exact txu_3 | exact txu_4) ?_
  refine V_aload_n C dX2_startReading_5 rfl ?_
  refine V_iconst C dX2_startReading_6 ?_
  refine V_putJ C 4 4 rfl dX2_startReading_7 o2 rfl hin_X2_startReading_X2 tyX2 tyX2_ok nmX2 (by decide) lk_X2_startReading_18 rfl rfl (by decide +kernel) rfl (by first | exact txu_3 | exact txu_4) ?_
  refine V_return C E dX2_startReading_10 (by omega) (by omega) ?_
  exact Dt_rfl
theorem dX2_pass_0 : decode cX2_pass 0 = .ok (.iload_n 1, 1) := by decide +kernel
theorem dX2_pass_1 : decode cX2_pass 1 = .ok (.ifCond .eq 16, 3) := by decide +kernel
theorem dX2_pass_4 : decode cX2_pass 4 = .ok (.aload_n 0, 1) := by decide +kernel
theorem dX2_pass_5 : decode cX2_pass 5 = .ok (.dup, 1) := by decide +kernel
theorem dX2_pass_6 : decode cX2_pass 6 = .ok (.getfield 42, 3) := by decide +kernel
theorem dX2_pass_9 : decode cX2_pass 9 = .ok (.iconst 1, 1) := by decide +kernel
theorem dX2_pass_10 : decode cX2_pass 10 = .ok (.iadd, 1) := by decide +kernel
theorem dX2_pass_11 : decode cX2_pass 11 = .ok (.putfield 42, 3) := by decide +kernel
theorem dX2_pass_14 : decode cX2_pass 14 = .ok (.goto 11, 3) := by decide +kernel
theorem dX2_pass_17 : decode cX2_pass 17 = .ok (.aload_n 0, 1) := by decide +kernel
theorem dX2_pass_18 : decode cX2_pass 18 = .ok (.aload_n 0, 1) := by decide +kernel
theorem dX2_pass_19 : decode cX2_pass 19 = .ok (.getfield 42, 3) := by decide +kernel
theorem dX2_pass_22 : decode cX2_pass 22 = .ok (.putfield 18, 3) := by decide +kernel
theorem dX2_pass_25 : decode cX2_pass 25 = .ok (.return_, 1) := by decide +kernel
theorem hin_X2_pass_X2 : ∀ w ∈ wsX20, w ∈ wsX2_pass := by decide +kernel
theorem lk_X2_pass_42 : Cond.fieldLink RX2 42 RX2 "cursor" "I" ∈ wsX2_pass := by decide +kernel
theorem lk_X2_pass_18 : Cond.fieldLink RX2 18 RX2 "fault" "I" ∈ wsX2_pass := by decide +kernel
theorem t_pass1 (hG : GP G) (hT : TxS S t) : Ct G l yX2_pass wsX2_pass 0 0 0 [.ref t, .int (I32 1)] S n (txM mu t c f k N) la (Dt none S n (txM mu t (c + 1) f k N) la) := by
  have o2 := hT.1
  refine Ct.ofV (cc := cX2_pass) (nL := 2) (ret := none) [some (.ref t), some (.int (I32 1))] hG (by decide) rfl (Nat.le_of_ble_eq_true rfl) rfl ?_
  rintro X rfl rfl C hcl hsl E
  refine V_iload_n C dX2_pass_0 rfl ?_
  refine V_if_eq C 17 dX2_pass_1 (by decide) (by omega) (fun z1 => ?_) (fun z1 => ?_)
  · exact absurd z1 (by first | omega | decide)
  · refine V_aload_n C dX2_pass_4 rfl ?_
    refine V_dup C dX2_pass_5 rfl ?_
    refine V_getJ C 3 3 rfl dX2_pass_6 o2 rfl hin_X2_pass_X2 (by decide) lk_X2_pass_42 rfl rfl (by first | exact tx_2 | exact tx_3) ?_
    refine V_iconst C dX2_pass_9 ?_
    refine V_iadd C dX2_pass_10 ?_
    refine V_putJ C 3 3 rfl dX2_pass_11 o2 rfl hin_X2_pass_X2 tyX2 tyX2_ok nmX2 (by decide) lk_X2_pass_42 rfl rfl (by decide +kernel) rfl (by first | exact txu_3 | exact txu_4) ?_
    refine V_goto C 25 dX2_pass_14 (by decide) ?_
    refine V_return C E dX2_pass_25 (by omega) (by omega) ?_
    exact Dt_rfl
-- X2_pass
theorem t_pass0 (hG : GP G) (hT : TxS S t) : Ct G l yX2_pass wsX2_pass 0 0 0 [.ref t, .int (I32 0)] S n (txM mu t c f k N) la (Dt none S n (txM mu t c c k N) la) := by
  have o2 := hT.1
  refine Ct.ofV (cc := cX2_pass) (nL := 2) (ret := none) [some (.ref t), some (.int (I32 0))] hG (by decide) rfl (Nat.le_of_ble_eq_true rfl) rfl ?_
  rintro X rfl rfl C hcl hsl E
  refine V_iload_n C dX2_pass_0 rfl ?_
  refine V_if_eq C 17 dX2_pass_1 (by decide) (by omega) (fun z1 => ?_) (fun z1 => ?_)
  · refine V_aload_n C dX2_pass_17 rfl ?_
    refine V_aload_n C dX2_pass_18 rfl ?_
    refine V_getJ C 3 3 rfl dX2_pass_19 o2 rfl hin_X2_pass_X2 (by decide) lk_X2_pass_42 rfl rfl (by first | exact tx_2 | exact tx_3) ?_
    refine V_putJ C 4 4 rfl dX2_pass_22 o2 rfl hin_X2_pass_X2 tyX2 tyX2_ok nmX2 (by decide) lk_X2_pass_18 rfl rfl (by decide +kernel) rfl (by first | exact txu_3 | exact txu_4) ?_
    refine V_return C E dX2_pass_25 (by omega) (by omega) ?_
    exact Dt_rfl
  · exact absurd z1 (by first | omega | decide)
set_option maxRecDepth 20000 in
theorem ggX2_skipSpaces_X2_here : GoodIn wsX2_skipSpaces wsX2_here := goodIn_r _ [7, 1, 2, 8, 9, 10, 11, 12, 13, 14, 15, 16, 17] (by decide +kernel) (by decide +kernel)
set_option maxRecDepth 20000 in
theorem gX2_skipSpaces_X2_here : GoodIn wsX2_skipSpaces (wsV RX2 67 RX2 yX2_here wsX2_here) := goodIn_app (goodIn_of _ (by decide +kernel)) ggX2_skipSpaces_X2_here
theorem dX2_skipSpaces_0 : decode cX2_skipSpaces 0 = .ok (.aload_n 0, 1) := by decide +kernel
theorem dX2_skipSpaces_1 : decode cX2_skipSpaces 1 = .ok (.getfield 42, 3) := by decide +kernel
theorem dX2_skipSpaces_4 : decode cX2_skipSpaces 4 = .ok (.aload_n 0, 1) := by decide +kernel
theorem dX2_skipSpaces_5 : decode cX2_skipSpaces 5 = .ok (.getfield 22, 3) := by decide +kernel
theorem dX2_skipSpaces_8 : decode cX2_skipSpaces 8 = .ok (.if_icmp .ge 25, 3) := by decide +kernel
theorem dX2_skipSpaces_11 : decode cX2_skipSpaces 11 = .ok (.aload_n 0, 1) := by decide +kernel
theorem dX2_skipSpaces_12 : decode cX2_skipSpaces 12 = .ok (.invokevirtual 67, 3) := by decide +kernel
theorem dX2_skipSpaces_15 : decode cX2_skipSpaces 15 = .ok (.bipush 32, 2) := by decide +kernel
theorem dX2_skipSpaces_17 : decode cX2_skipSpaces 17 = .ok (.if_icmp .ne 16, 3) := by decide +kernel
theorem dX2_skipSpaces_20 : decode cX2_skipSpaces 20 = .ok (.aload_n 0, 1) := by decide +kernel
theorem dX2_skipSpaces_21 : decode cX2_skipSpaces 21 = .ok (.dup, 1) := by decide +kernel
theorem dX2_skipSpaces_22 : decode cX2_skipSpaces 22 = .ok (.getfield 42, 3) := by decide +kernel
theorem dX2_skipSpaces_25 : decode cX2_skipSpaces 25 = .ok (.iconst 1, 1) := by decide +kernel
theorem dX2_skipSpaces_26 : decode cX2_skipSpaces 26 = .ok (.iadd, 1) := by decide +kernel
theorem dX2_skipSpaces_27 : decode cX2_skipSpaces 27 = .ok (.putfield 42, 3) := by decide +kernel
theorem dX2_skipSpaces_30 : decode cX2_skipSpaces 30 = .ok (.goto (-30), 3) := by decide +kernel
theorem dX2_skipSpaces_33 : decode cX2_skipSpaces 33 = .ok (.return_, 1) := by decide +kernel
theorem hin_X2_skipSpaces_X2 : ∀ w ∈ wsX20, w ∈ wsX2_skipSpaces := by decide +kernel
theorem lk_X2_skipSpaces_42 : Cond.fieldLink RX2 42 RX2 "cursor" "I" ∈ wsX2_skipSpaces := by decide +kernel
theorem lk_X2_skipSpaces_22 : Cond.fieldLink RX2 22 RX2 "length" "I" ∈ wsX2_skipSpaces := by decide +kernel
theorem t_skipSpaces (hG : GP G) (hT : TxS S t) (hR : R32 mu) (hn : 0 ≤ mu t 2 ∧ mu t 2 ≤ 150) (hc : 0 ≤ c ∧ c ≤ mu t 2) : Ct G l yX2_skipSpaces wsX2_skipSpaces 2 0 0 [.ref t] S n (txM mu t c f k N) la (Dt none S n (txM mu t (skF mu t c) f k N) la) := by
  have o2 := hT.1
  unfold skF
  generalize eR : scG (tB mu t) 32 32 (mu t 2 - c).toNat c = R
  refine Ct.ofV (cc := cX2_skipSpaces) (nL := 1) (ret := none) [some (.ref t)] hG (by decide) rfl (Nat.le_of_ble_eq_true rfl) rfl ?_
  rintro X rfl rfl C hcl hsl E
  have loop : ∀ (d : Nat) (c : Int), c + d = mu t 2 → 0 ≤ c → scG (tB mu t) 32 32 d c = R → V X 0 [some (.ref t)] [] S n (txM mu t c f k N) la 0 0 := by
    intro d
    induction d with
    | zero =>
      intro c h1 h2 h3
      have h3 : R = c := h3.symm
      subst h3
      refine V_aload_n C dX2_skipSpaces_0 rfl ?_
      refine V_getJ C 3 3 rfl dX2_skipSpaces_1 o2 rfl hin_X2_skipSpaces_X2 (by decide) lk_X2_skipSpaces_42 rfl rfl (by first | exact tx_2 | exact tx_3) ?_
      refine V_aload_n C dX2_skipSpaces_4 rfl ?_
      refine V_getJ C 2 2 rfl dX2_skipSpaces_5 o2 rfl hin_X2_skipSpaces_X2 (by decide) lk_X2_skipSpaces_22 rfl rfl (by first | exact tx_2 | exact tx_3) ?_
      refine V_icmp_ge C 33 dX2_skipSpaces_8 (by decide) (by omega) (by omega) (fun z8 => ?_) (fun z8 => ?_)
      · refine V_return C E dX2_skipSpaces_33 (by omega) (by omega) ?_
        exact Dt_rfl
      · exact absurd z8 (by first | omega | decide)
    | succ d ih =>
      intro c h1 h2 h3
      rw [scG] at h3
      have bh := tH_R hR t c
      have eh : tH mu t c = tB mu t c := by rw [tH, if_pos (by omega)]
      refine V_aload_n C dX2_skipSpaces_0 rfl ?_
      refine V_getJ C 3 3 rfl dX2_skipSpaces_1 o2 rfl hin_X2_skipSpaces_X2 (by decide) lk_X2_skipSpaces_42 rfl rfl (by first | exact tx_2 | exact tx_3) ?_
      refine V_aload_n C dX2_skipSpaces_4 rfl ?_
      refine V_getJ C 2 2 rfl dX2_skipSpaces_5 o2 rfl hin_X2_skipSpaces_X2 (by decide) lk_X2_skipSpaces_22 rfl rfl (by first | exact tx_2 | exact tx_3) ?_
      refine V_icmp_ge C 33 dX2_skipSpaces_8 (by decide) (by omega) (by omega) (fun z8 => ?_) (fun z8 => ?_)
      · exact absurd z8 (by first | omega | decide)
      · refine V_aload_n C dX2_skipSpaces_11 rfl ?_
        refine V_callVD (nA := 0) C dX2_skipSpaces_12 (t_here C.gp hT hn (by omega)) gX2_skipSpaces_X2_here rfl o2 rfl (by decide +kernel) rfl (by decide) (by decide) (Nat.le_of_ble_eq_true rfl) ⟨by omega, by omega⟩ rfl ?_
        refine V_bipush C dX2_skipSpaces_15 (by decide +kernel) ?_
        refine V_icmp_ne C 33 dX2_skipSpaces_17 (by decide) (by omega) (by omega) (fun z17 => ?_) (fun z17 => ?_)
        · rw [if_neg (by omega)] at h3
          subst h3
          refine V_return C E dX2_skipSpaces_33 (by omega) (by omega) ?_
          exact Dt_rfl
        · refine V_aload_n C dX2_skipSpaces_20 rfl ?_
          refine V_dup C dX2_skipSpaces_21 rfl ?_
          refine V_getJ C 3 3 rfl dX2_skipSpaces_22 o2 rfl hin_X2_skipSpaces_X2 (by decide) lk_X2_skipSpaces_42 rfl rfl (by first | exact tx_2 | exact tx_3) ?_
          refine V_iconst C dX2_skipSpaces_25 ?_
          refine V_iadd C dX2_skipSpaces_26 ?_
          refine V_putJ C 3 3 rfl dX2_skipSpaces_27 o2 rfl hin_X2_skipSpaces_X2 tyX2 tyX2_ok nmX2 (by decide) lk_X2_skipSpaces_42 rfl rfl (by decide +kernel) rfl (by first | exact txu_3 | exact txu_4) ?_
          refine V_goto C 0 dX2_skipSpaces_30 (by decide) ?_
          rw [if_pos (by omega)] at h3
          exact ih _ (by omega) (by omega) h3
  exact loop _ c (by omega) hc.1 eR
set_option maxRecDepth 20000 in
theorem ggX2_isDigitHere_X2_here : GoodIn wsX2_isDigitHere wsX2_here := goodIn_r _ [5, 6, 7, 8, 9, 10, 11, 12, 13, 14, 15, 16, 17] (by decide +kernel) (by decide +kernel)
set_option maxRecDepth 20000 in
theorem gX2_isDigitHere_X2_here : GoodIn wsX2_isDigitHere (wsV RX2 67 RX2 yX2_here wsX2_here) := goodIn_app (goodIn_of _ (by decide +kernel)) ggX2_isDigitHere_X2_here
theorem dX2_isDigitHere_0 : decode cX2_isDigitHere 0 = .ok (.aload_n 0, 1) := by decide +kernel
theorem dX2_isDigitHere_1 : decode cX2_isDigitHere 1 = .ok (.invokevirtual 67, 3) := by decide +kernel
theorem dX2_isDigitHere_4 : decode cX2_isDigitHere 4 = .ok (.bipush 48, 2) := by decide +kernel
theorem dX2_isDigitHere_6 : decode cX2_isDigitHere 6 = .ok (.if_icmp .lt 16, 3) := by decide +kernel
theorem dX2_isDigitHere_9 : decode cX2_isDigitHere 9 = .ok (.aload_n 0, 1) := by decide +kernel
theorem dX2_isDigitHere_10 : decode cX2_isDigitHere 10 = .ok (.invokevirtual 67, 3) := by decide +kernel
theorem dX2_isDigitHere_13 : decode cX2_isDigitHere 13 = .ok (.bipush 57, 2) := by decide +kernel
theorem dX2_isDigitHere_15 : decode cX2_isDigitHere 15 = .ok (.if_icmp .gt 7, 3) := by decide +kernel
theorem dX2_isDigitHere_18 : decode cX2_isDigitHere 18 = .ok (.iconst 1, 1) := by decide +kernel
theorem dX2_isDigitHere_19 : decode cX2_isDigitHere 19 = .ok (.goto 4, 3) := by decide +kernel
theorem dX2_isDigitHere_22 : decode cX2_isDigitHere 22 = .ok (.iconst 0, 1) := by decide +kernel
theorem dX2_isDigitHere_23 : decode cX2_isDigitHere 23 = .ok (.ireturn, 1) := by decide +kernel
theorem t_isDigitHere (hG : GP G) (hT : TxS S t) (hR : R32 mu) (hn : 0 ≤ mu t 2 ∧ mu t 2 ≤ 150) (hc : 0 ≤ c ∧ c ≤ mu t 2) : Ct G l yX2_isDigitHere wsX2_isDigitHere 2 0 0 [.ref t] S n (txM mu t c f k N) la (Dt (some (.int (I32 (if 48 ≤ tH mu t c ∧ tH mu t c ≤ 57 then 1 else 0)))) S n (txM mu t c f k N) la) := by
  have o2 := hT.1
  have bh := tH_R hR t c
  refine Ct.ofV (cc := cX2_isDigitHere) (nL := 1) (ret := (some .boolean)) [some (.ref t)] hG (by decide) rfl (Nat.le_of_ble_eq_true rfl) rfl ?_
  rintro X rfl rfl C hcl hsl E
  refine V_aload_n C dX2_isDigitHere_0 rfl ?_
  refine V_callVD (nA := 0) C dX2_isDigitHere_1 (t_here C.gp hT hn hc) gX2_isDigitHere_X2_here rfl o2 rfl (by decide +kernel) rfl (by decide) (by decide) (Nat.le_of_ble_eq_true rfl) ⟨by omega, by omega⟩ rfl ?_
  refine V_bipush C dX2_isDigitHere_4 (by decide +kernel) ?_
  refine V_icmp_lt C 22 dX2_isDigitHere_6 (by decide) (by omega) (by omega) (fun z6 => ?_) (fun z6 => ?_)
  · refine V_iconst C dX2_isDigitHere_22 ?_
    refine V_zreturn C E (by first | exact Or.inl rfl | exact Or.inr rfl) dX2_isDigitHere_23 (by omega) (by omega) ?_
    exact Dt_int (by (repeat' split) <;> first | rfl | omega)
  · refine V_aload_n C dX2_isDigitHere_9 rfl ?_
    refine V_callVD (nA := 0) C dX2_isDigitHere_10 (t_here C.gp hT hn hc) gX2_isDigitHere_X2_here rfl o2 rfl (by decide +kernel) rfl (by decide) (by decide) (Nat.le_of_ble_eq_true rfl) ⟨by omega, by omega⟩ rfl ?_
    refine V_bipush C dX2_isDigitHere_13 (by decide +kernel) ?_
    refine V_icmp_gt C 22 dX2_isDigitHere_15 (by decide) (by omega) (by omega) (fun z15 => ?_) (fun z15 => ?_)
    · refine V_iconst C dX2_isDigitHere_22 ?_
      refine V_zreturn C E (by first | exact Or.inl rfl | exact Or.inr rfl) dX2_isDigitHere_23 (by omega) (by omega) ?_
      exact Dt_int (by (repeat' split) <;> first | rfl | omega)
    · refine V_iconst C dX2_isDigitHere_18 ?_
      refine V_goto C 23 dX2_isDigitHere_19 (by decide) ?_
      refine V_zreturn C E (by first | exact Or.inl rfl | exact Or.inr rfl) dX2_isDigitHere_23 (by omega) (by omega) ?_
      exact Dt_int (by (repeat' split) <;> first | rfl | omega)
set_option maxRecDepth 20000 in
theorem ggX2_readNumber_X2_here : GoodIn wsX2_readNumber wsX2_here := goodIn_r _ [8, 2, 9, 10, 11, 12, 13, 28, 29, 30, 31, 32, 33] (by decide +kernel) (by decide +kernel)
set_option maxRecDepth 20000 in
theorem gX2_readNumber_X2_here : GoodIn wsX2_readNumber (wsV RX2 67 RX2 yX2_here wsX2_here) := goodIn_app (goodIn_of _ (by decide +kernel)) ggX2_readNumber_X2_here
set_option maxRecDepth 20000 in
theorem ggX2_readNumber_X2_pass : GoodIn wsX2_readNumber wsX2_pass := goodIn_r _ [17, 2, 1, 28, 29, 30, 31, 32, 33] (by decide +kernel) (by decide +kernel)
set_option maxRecDepth 20000 in
theorem gX2_readNumber_X2_pass : GoodIn wsX2_readNumber (wsV RX2 71 RX2 yX2_pass wsX2_pass) := goodIn_app (goodIn_of _ (by decide +kernel)) ggX2_readNumber_X2_pass
set_option maxRecDepth 20000 in
theorem ggX2_readNumber_X2_skipSpaces : GoodIn wsX2_readNumber wsX2_skipSpaces := goodIn_r _ [21, 2, 9, 4, 5, 6, 7, 8, 10, 11, 12, 13, 28, 29, 30, 31, 32, 33] (by decide +kernel) (by decide +kernel)
set_option maxRecDepth 20000 in
theorem gX2_readNumber_X2_skipSpaces : GoodIn wsX2_readNumber (wsV RX2 53 RX2 yX2_skipSpaces wsX2_skipSpaces) := goodIn_app (goodIn_of _ (by decide +kernel)) ggX2_readNumber_X2_skipSpaces
set_option maxRecDepth 20000 in
theorem ggX2_readNumber_X2_isDigitHere : GoodIn wsX2_readNumber wsX2_isDigitHere := goodIn_r _ [25, 4, 5, 6, 7, 8, 2, 9, 10, 11, 12, 13, 28, 29, 30, 31, 32, 33] (by decide +kernel) (by decide +kernel)
set_option maxRecDepth 20000 in
theorem gX2_readNumber_X2_isDigitHere : GoodIn wsX2_readNumber (wsV RX2 95 RX2 yX2_isDigitHere wsX2_isDigitHere) := goodIn_app (goodIn_of _ (by decide +kernel)) ggX2_readNumber_X2_isDigitHere
set_option maxRecDepth 20000 in
theorem ggX2_readNumber_X8_put : GoodIn wsX2_readNumber wsX8_put := goodIn_r _ [27] (by decide +kernel) (by decide +kernel)
set_option maxRecDepth 20000 in
theorem gX2_readNumber_X8_put_n25 : GoodIn wsX2_readNumber (wsX8_put) := ggX2_readNumber_X8_put
theorem dX2_readNumber_0 : decode cX2_readNumber 0 = .ok (.aload_n 0, 1) := by decide +kernel
theorem dX2_readNumber_1 : decode cX2_readNumber 1 = .ok (.aload_n 0, 1) := by decide +kernel
theorem dX2_readNumber_2 : decode cX2_readNumber 2 = .ok (.invokevirtual 67, 3) := by decide +kernel
theorem dX2_readNumber_5 : decode cX2_readNumber 5 = .ok (.bipush 32, 2) := by decide +kernel
theorem dX2_readNumber_7 : decode cX2_readNumber 7 = .ok (.if_icmp .ne 7, 3) := by decide +kernel
theorem dX2_readNumber_10 : decode cX2_readNumber 10 = .ok (.iconst 1, 1) := by decide +kernel
theorem dX2_readNumber_11 : decode cX2_readNumber 11 = .ok (.goto 4, 3) := by decide +kernel
theorem dX2_readNumber_14 : decode cX2_readNumber 14 = .ok (.iconst 0, 1) := by decide +kernel
theorem dX2_readNumber_15 : decode cX2_readNumber 15 = .ok (.invokevirtual 71, 3) := by decide +kernel
theorem dX2_readNumber_18 : decode cX2_readNumber 18 = .ok (.aload_n 0, 1) := by decide +kernel
theorem dX2_readNumber_19 : decode cX2_readNumber 19 = .ok (.getfield 18, 3) := by decide +kernel
theorem dX2_readNumber_22 : decode cX2_readNumber 22 = .ok (.iconst (-1), 1) := by decide +kernel
theorem dX2_readNumber_23 : decode cX2_readNumber 23 = .ok (.if_icmp .eq 4, 3) := by decide +kernel
theorem dX2_readNumber_26 : decode cX2_readNumber 26 = .ok (.return_, 1) := by decide +kernel
theorem dX2_readNumber_27 : decode cX2_readNumber 27 = .ok (.aload_n 0, 1) := by decide +kernel
theorem dX2_readNumber_28 : decode cX2_readNumber 28 = .ok (.invokevirtual 53, 3) := by decide +kernel
theorem dX2_readNumber_31 : decode cX2_readNumber 31 = .ok (.iconst 0, 1) := by decide +kernel
theorem dX2_readNumber_32 : decode cX2_readNumber 32 = .ok (.istore_n 2, 1) := by decide +kernel
theorem dX2_readNumber_33 : decode cX2_readNumber 33 = .ok (.iconst 0, 1) := by decide +kernel
theorem dX2_readNumber_34 : decode cX2_readNumber 34 = .ok (.istore_n 3, 1) := by decide +kernel
theorem dX2_readNumber_35 : decode cX2_readNumber 35 = .ok (.iload_n 3, 1) := by decide +kernel
theorem dX2_readNumber_36 : decode cX2_readNumber 36 = .ok (.iconst 3, 1) := by decide +kernel
theorem dX2_readNumber_37 : decode cX2_readNumber 37 = .ok (.if_icmp .ge 39, 3) := by decide +kernel
theorem dX2_readNumber_40 : decode cX2_readNumber 40 = .ok (.aload_n 0, 1) := by decide +kernel
theorem dX2_readNumber_41 : decode cX2_readNumber 41 = .ok (.invokevirtual 95, 3) := by decide +kernel
theorem dX2_readNumber_44 : decode cX2_readNumber 44 = .ok (.ifCond .eq 32, 3) := by decide +kernel
theorem dX2_readNumber_47 : decode cX2_readNumber 47 = .ok (.bipush 10, 2) := by decide +kernel
theorem dX2_readNumber_49 : decode cX2_readNumber 49 = .ok (.iload_n 2, 1) := by decide +kernel
theorem dX2_readNumber_50 : decode cX2_readNumber 50 = .ok (.imul, 1) := by decide +kernel
theorem dX2_readNumber_51 : decode cX2_readNumber 51 = .ok (.aload_n 0, 1) := by decide +kernel
theorem dX2_readNumber_52 : decode cX2_readNumber 52 = .ok (.invokevirtual 67, 3) := by decide +kernel
theorem dX2_readNumber_55 : decode cX2_readNumber 55 = .ok (.iadd, 1) := by decide +kernel
theorem dX2_readNumber_56 : decode cX2_readNumber 56 = .ok (.bipush 48, 2) := by decide +kernel
theorem dX2_readNumber_58 : decode cX2_readNumber 58 = .ok (.isub, 1) := by decide +kernel
theorem dX2_readNumber_59 : decode cX2_readNumber 59 = .ok (.istore_n 2, 1) := by decide +kernel
theorem dX2_readNumber_60 : decode cX2_readNumber 60 = .ok (.iinc 3 1, 3) := by decide +kernel
theorem dX2_readNumber_63 : decode cX2_readNumber 63 = .ok (.aload_n 0, 1) := by decide +kernel
theorem dX2_readNumber_64 : decode cX2_readNumber 64 = .ok (.dup, 1) := by decide +kernel
theorem dX2_readNumber_65 : decode cX2_readNumber 65 = .ok (.getfield 42, 3) := by decide +kernel
theorem dX2_readNumber_68 : decode cX2_readNumber 68 = .ok (.iconst 1, 1) := by decide +kernel
theorem dX2_readNumber_69 : decode cX2_readNumber 69 = .ok (.iadd, 1) := by decide +kernel
theorem dX2_readNumber_70 : decode cX2_readNumber 70 = .ok (.putfield 42, 3) := by decide +kernel
theorem dX2_readNumber_73 : decode cX2_readNumber 73 = .ok (.goto (-38), 3) := by decide +kernel
theorem dX2_readNumber_76 : decode cX2_readNumber 76 = .ok (.iload_n 3, 1) := by decide +kernel
theorem dX2_readNumber_77 : decode cX2_readNumber 77 = .ok (.ifCond .ne 11, 3) := by decide +kernel
theorem dX2_readNumber_80 : decode cX2_readNumber 80 = .ok (.aload_n 0, 1) := by decide +kernel
theorem dX2_readNumber_81 : decode cX2_readNumber 81 = .ok (.aload_n 0, 1) := by decide +kernel
theorem dX2_readNumber_82 : decode cX2_readNumber 82 = .ok (.getfield 42, 3) := by decide +kernel
theorem dX2_readNumber_85 : decode cX2_readNumber 85 = .ok (.putfield 18, 3) := by decide +kernel
theorem dX2_readNumber_88 : decode cX2_readNumber 88 = .ok (.aload_n 0, 1) := by decide +kernel
theorem dX2_readNumber_89 : decode cX2_readNumber 89 = .ok (.getfield 15, 3) := by decide +kernel
theorem dX2_readNumber_92 : decode cX2_readNumber 92 = .ok (.iload_n 1, 1) := by decide +kernel
theorem dX2_readNumber_93 : decode cX2_readNumber 93 = .ok (.iload_n 2, 1) := by decide +kernel
theorem dX2_readNumber_94 : decode cX2_readNumber 94 = .ok (.invokestatic 25, 3) := by decide +kernel
theorem dX2_readNumber_97 : decode cX2_readNumber 97 = .ok (.return_, 1) := by decide +kernel
theorem hin_X2_readNumber_X2 : ∀ w ∈ wsX20, w ∈ wsX2_readNumber := by decide +kernel
theorem lk_X2_readNumber_18 : Cond.fieldLink RX2 18 RX2 "fault" "I" ∈ wsX2_readNumber := by decide +kernel
theorem lk_X2_readNumber_42 : Cond.fieldLink RX2 42 RX2 "cursor" "I" ∈ wsX2_readNumber := by decide +kernel
theorem lk_X2_readNumber_15 : Cond.fieldLink RX2 15 RX2 "numbers" "[I" ∈ wsX2_readNumber := by decide +kernel
theorem t_readNumber (hG : GP G) (hT : TxS S t) (hR : R32 mu) (hn : 0 ≤ mu t 2 ∧ mu t 2 ≤ 150) (hc : 0 ≤ c ∧ c ≤ mu t 2) {i : Int} (hi : 0 ≤ i ∧ i < 5) : Ct G l yX2_readNumber wsX2_readNumber 3 0 0 [.ref t, .int (I32 i)] S n (txM mu t c (-1) k N) la (Dt none S n (txM mu t (rmF mu t i c N).1 (rmF mu t i c N).2.1 k (rmF mu t i c N).2.2) la) := by
  have o2 := hT.1
  have bh := tH_R hR t c
  unfold rmF
  refine Ct.ofV (cc := cX2_readNumber) (nL := 4) (ret := none) [some (.ref t), some (.int (I32 i)), none, none] hG (by decide) rfl (Nat.le_of_ble_eq_true rfl) rfl ?_
  rintro X rfl rfl C hcl hsl E
  refine V_aload_n C dX2_readNumber_0 rfl ?_
  refine V_aload_n C dX2_readNumber_1 rfl ?_
  refine V_callVD (nA := 0) C dX2_readNumber_2 (t_here C.gp hT hn hc) gX2_readNumber_X2_here rfl o2 rfl (by decide +kernel) rfl (by decide) (by decide) (Nat.le_of_ble_eq_true rfl) ⟨by omega, by omega⟩ rfl ?_
  refine V_bipush C dX2_readNumber_5 (by decide +kernel) ?_
  refine V_icmp_ne C 14 dX2_readNumber_7 (by decide) (by omega) (by omega) (fun z => ?_) (fun z => ?_)
  · refine V_iconst C dX2_readNumber_14 ?_
    refine V_callVD (nA := 1) C dX2_readNumber_15 (t_pass0 C.gp hT) gX2_readNumber_X2_pass rfl o2 rfl (by decide +kernel) rfl (by decide) (by decide) (Nat.le_of_ble_eq_true rfl) ⟨by omega, by omega⟩ rfl ?_
    refine V_aload_n C dX2_readNumber_18 rfl ?_
    refine V_getJ C 4 4 rfl dX2_readNumber_19 o2 rfl hin_X2_readNumber_X2 (by decide) lk_X2_readNumber_18 rfl rfl (by first | exact tx_4 | exact tx_3) ?_
    refine V_iconst C dX2_readNumber_22 ?_
    refine V_icmp_eq C 27 dX2_readNumber_23 (by decide) (by omega) (by omega) (fun z2 => ?_) (fun z2 => ?_)
    · exact absurd z2 (by omega)
    · rw [if_neg (by omega)] at E
      refine V_return C E dX2_readNumber_26 (by omega) (by omega) ?_
      exact Dt_rfl
  · have hlt := tH_lt z (by omega)
    rw [if_pos z] at E
    refine V_iconst C dX2_readNumber_10 ?_
    refine V_goto C 15 dX2_readNumber_11 (by decide) ?_
    refine V_callVD (nA := 1) C dX2_readNumber_15 (t_pass1 C.gp hT) gX2_readNumber_X2_pass rfl o2 rfl (by decide +kernel) rfl (by decide) (by decide) (Nat.le_of_ble_eq_true rfl) ⟨by omega, by omega⟩ rfl ?_
    refine V_aload_n C dX2_readNumber_18 rfl ?_
    refine V_getJ C 4 4 rfl dX2_readNumber_19 o2 rfl hin_X2_readNumber_X2 (by decide) lk_X2_readNumber_18 rfl rfl (by first | exact tx_4 | exact tx_3) ?_
    refine V_iconst C dX2_readNumber_22 ?_
    refine V_icmp_eq C 27 dX2_readNumber_23 (by decide) (by omega) (by omega) (fun z2 => ?_) (fun z2 => ?_)
    · have bs := skF_b mu t (c := c + 1) (by omega)
      refine V_aload_n C dX2_readNumber_27 rfl ?_
      refine V_callVD (nA := 0) C dX2_readNumber_28 (t_skipSpaces C.gp hT hR hn (by omega)) gX2_readNumber_X2_skipSpaces rfl o2 rfl (by decide +kernel) rfl (by decide) (by decide) (Nat.le_of_ble_eq_true rfl) ⟨by omega, by omega⟩ rfl ?_
      generalize skF mu t (c + 1) = c1 at bs E
      generalize eD : dgG mu t 3 c1 0 = D at E
      have loop : ∀ (d : Nat) (c v g : Int), g + d = 3 → 0 ≤ g → c1 ≤ c ∧ c ≤ mu t 2 → c = c1 + g → (0 ≤ v ∧ v ≤ 999) ∧ (g = 0 → v = 0) ∧ (g = 1 → v ≤ 9) ∧ (g = 2 → v ≤ 99) → dgG mu t d c v = D → V X 35 [some (.ref t), some (.int (I32 i)), some (.int (I32 v)), some (.int (I32 g))] [] S n (txM mu t c (-1) k N) la 0 0 := by
        intro d
        have fin : ∀ (c v g : Int), (0 ≤ g ∧ g ≤ 3) → c1 ≤ c ∧ c ≤ mu t 2 → c = c1 + g → (0 ≤ v ∧ v ≤ 999) → D = (c, v) → V X 76 [some (.ref t), some (.int (I32 i)), some (.int (I32 v)), some (.int (I32 g))] [] S n (txM mu t c (-1) k N) la 0 0 := by
          intro c v g h2 h3 h4 h5 hD
          subst hD
          dsimp only at E
          refine V_iload_n C dX2_readNumber_76 rfl ?_
          refine V_if_ne C 88 dX2_readNumber_77 (by decide) (by omega) (fun z3 => ?_) (fun z3 => ?_)
          · rw [if_neg (by omega)] at E
            refine V_aload_n C dX2_readNumber_88 rfl ?_
            refine V_getR C 1 dX2_readNumber_89 o2 rfl hin_X2_readNumber_X2 (by decide) lk_X2_readNumber_15 rfl rfl ?_
            refine V_iload_n C dX2_readNumber_92 rfl ?_
            refine V_iload_n C dX2_readNumber_93 rfl ?_
            refine V_callSND (nA := 3) (host := "DockTree") C dX2_readNumber_94 (c_putW C.gp hT.2.2 (by decide)) gX2_readNumber_X8_put_n25 (by decide +kernel) (by decide +kernel) (by decide +kernel) rfl (by decide +kernel) rfl (by decide) (by decide) (Nat.le_of_ble_eq_true rfl) ⟨by omega, by omega⟩ rfl ?_
            rw [txn hi (by omega)]
            refine V_return C E dX2_readNumber_97 (by omega) (by omega) ?_
            exact Dt_rfl
          · rw [if_pos (by omega)] at E
            refine V_aload_n C dX2_readNumber_80 rfl ?_
            refine V_aload_n C dX2_readNumber_81 rfl ?_
            refine V_getJ C 3 3 rfl dX2_readNumber_82 o2 rfl hin_X2_readNumber_X2 (by decide) lk_X2_readNumber_42 rfl rfl (by first | exact tx_3 | exact tx_4) ?_
            refine V_putJ C 4 4 rfl dX2_readNumber_85 o2 rfl hin_X2_readNumber_X2 tyX2 tyX2_ok nmX2 (by decide) lk_X2_readNumber_18 rfl rfl (by decide +kernel) rfl (by first | exact txu_4 | exact txu_3) ?_
            refine V_aload_n C dX2_readNumber_88 rfl ?_
            refine V_getR C 1 dX2_readNumber_89 o2 rfl hin_X2_readNumber_X2 (by decide) lk_X2_readNumber_15 rfl rfl ?_
            refine V_iload_n C dX2_readNumber_92 rfl ?_
            refine V_iload_n C dX2_readNumber_93 rfl ?_
            refine V_callSND (nA := 3) (host := "DockTree") C dX2_readNumber_94 (c_putW C.gp hT.2.2 (by decide)) gX2_readNumber_X8_put_n25 (by decide +kernel) (by decide +kernel) (by decide +kernel) rfl (by decide +kernel) rfl (by decide) (by decide) (Nat.le_of_ble_eq_true rfl) ⟨by omega, by omega⟩ rfl ?_
            rw [txn hi (by omega)]
            refine V_return C E dX2_readNumber_97 (by omega) (by omega) ?_
            rw [show c = c1 by omega]
            exact Dt_rfl
        induction d with
        | zero =>
          intro c v g h1 h2 h3 h4 h5 h6
          refine V_iload_n C dX2_readNumber_35 rfl ?_
          refine V_iconst C dX2_readNumber_36 ?_
          refine V_icmp_ge C 76 dX2_readNumber_37 (by decide) (by omega) (by omega) (fun z3 => ?_) (fun z3 => ?_)
          · exact fin _ _ _ (by omega) h3 h4 h5.1 h6.symm
          · exact absurd z3 (by omega)
        | succ d ih =>
          intro c v g h1 h2 h3 h4 h5 h6
          rw [dgG] at h6
          refine V_iload_n C dX2_readNumber_35 rfl ?_
          refine V_iconst C dX2_readNumber_36 ?_
          refine V_icmp_ge C 76 dX2_readNumber_37 (by decide) (by omega) (by omega) (fun z3 => ?_) (fun z3 => ?_)
          · exact absurd z3 (by omega)
          · refine V_aload_n C dX2_readNumber_40 rfl ?_
            refine V_callVD (nA := 0) C dX2_readNumber_41 (t_isDigitHere C.gp hT hR hn (by omega)) gX2_readNumber_X2_isDigitHere rfl o2 rfl (by decide +kernel) rfl (by decide) (by decide) (Nat.le_of_ble_eq_true rfl) ⟨by omega, by omega⟩ rfl ?_
            by_cases hz : 48 ≤ tH mu t c ∧ tH mu t c ≤ 57
            · rw [if_pos hz] at h6 ⊢
              have hlt : c < mu t 2 := by
                have hz := hz.1
                unfold tH at hz
                split at hz <;> omega
              refine V_if_eq C 76 dX2_readNumber_44 (by decide) (by omega) (fun z4 => ?_) (fun z4 => ?_)
              · exact absurd z4 (by decide)
              · refine V_bipush C dX2_readNumber_47 (by decide +kernel) ?_
                refine V_iload_n C dX2_readNumber_49 rfl ?_
                refine V_imul C dX2_readNumber_50 ?_
                refine V_aload_n C dX2_readNumber_51 rfl ?_
                refine V_callVD (nA := 0) C dX2_readNumber_52 (t_here C.gp hT hn (by omega)) gX2_readNumber_X2_here rfl o2 rfl (by decide +kernel) rfl (by decide) (by decide) (Nat.le_of_ble_eq_true rfl) ⟨by omega, by omega⟩ rfl ?_
                refine V_iadd C dX2_readNumber_55 ?_
                refine V_bipush C dX2_readNumber_56 (by decide +kernel) ?_
                refine V_isub C dX2_readNumber_58 ?_
                refine V_istore_n C dX2_readNumber_59 rfl (by decide) ?_
                refine V_iinc C dX2_readNumber_60 rfl rfl (by decide) ?_
                refine V_aload_n C dX2_readNumber_63 rfl ?_
                refine V_dup C dX2_readNumber_64 rfl ?_
                refine V_getJ C 3 3 rfl dX2_readNumber_65 o2 rfl hin_X2_readNumber_X2 (by decide) lk_X2_readNumber_42 rfl rfl (by first | exact tx_3 | exact tx_4) ?_
                refine V_iconst C dX2_readNumber_68 ?_
                refine V_iadd C dX2_readNumber_69 ?_
                refine V_putJ C 3 3 rfl dX2_readNumber_70 o2 rfl hin_X2_readNumber_X2 tyX2 tyX2_ok nmX2 (by decide) lk_X2_readNumber_42 rfl rfl (by decide +kernel) rfl (by first | exact txu_3 | exact txu_4) ?_
                refine V_goto C 35 dX2_readNumber_73 (by decide) ?_
                exact ih _ _ _ (by omega) (by omega) (by omega) (by omega) (by omega) h6
            · rw [if_neg hz] at h6 ⊢
              refine V_if_eq C 76 dX2_readNumber_44 (by decide) (by omega) (fun z4 => ?_) (fun z4 => ?_)
              · exact fin _ _ _ (by omega) h3 h4 h5.1 h6.symm
              · exact absurd rfl z4
      refine V_iconst C dX2_readNumber_31 ?_
      refine V_istore_n C dX2_readNumber_32 rfl (by decide) ?_
      refine V_iconst C dX2_readNumber_33 ?_
      refine V_istore_n C dX2_readNumber_34 rfl (by decide) ?_
      exact loop 3 c1 0 0 (by omega) (by omega) (by omega) (by omega) (by omega) eD
    · exact absurd rfl z2
set_option maxRecDepth 20000 in
theorem ggX2_isWord_J0_length_8abf5 : GoodIn wsX2_isWord wsJ0_length_8abf5 := goodIn_r _ [7, 8, 9, 10, 11, 6, 12, 13, 14] (by decide +kernel) (by decide +kernel)
set_option maxRecDepth 20000 in
theorem gX2_isWord_J0_length_8abf5 : GoodIn wsX2_isWord (wsV RX2 87 RJ0 yJ0_length_8abf5 wsJ0_length_8abf5) := goodIn_app (goodIn_of _ (by decide +kernel)) ggX2_isWord_J0_length_8abf5
set_option maxRecDepth 20000 in
theorem ggX2_isWord_X8_at : GoodIn wsX2_isWord wsX8_at := goodIn_r _ [17] (by decide +kernel) (by decide +kernel)
set_option maxRecDepth 20000 in
theorem gX2_isWord_X8_at_n49 : GoodIn wsX2_isWord (wsX8_at) := ggX2_isWord_X8_at
set_option maxRecDepth 20000 in
theorem ggX2_isWord_J0_charAt_5068e : GoodIn wsX2_isWord wsJ0_charAt_5068e := goodIn_r _ [21, 8, 22, 23, 24, 6, 25, 13, 14, 26, 27, 28, 29, 30, 31, 32, 33, 34, 35, 36, 37, 38, 39, 40, 41, 42, 43, 44, 45, 46, 47, 48, 49, 50, 51, 52, 53, 54] (by decide +kernel) (by decide +kernel)
set_option maxRecDepth 20000 in
theorem gX2_isWord_J0_charAt_5068e : GoodIn wsX2_isWord (wsV RX2 91 RJ0 yJ0_charAt_5068e wsJ0_charAt_5068e) := goodIn_app (goodIn_of _ (by decide +kernel)) ggX2_isWord_J0_charAt_5068e
theorem dX2_isWord_0 : decode cX2_isWord 0 = .ok (.aload_n 1, 1) := by decide +kernel
theorem dX2_isWord_1 : decode cX2_isWord 1 = .ok (.invokevirtual 87, 3) := by decide +kernel
theorem dX2_isWord_4 : decode cX2_isWord 4 = .ok (.aload_n 0, 1) := by decide +kernel
theorem dX2_isWord_5 : decode cX2_isWord 5 = .ok (.getfield 42, 3) := by decide +kernel
theorem dX2_isWord_8 : decode cX2_isWord 8 = .ok (.iload_n 2, 1) := by decide +kernel
theorem dX2_isWord_9 : decode cX2_isWord 9 = .ok (.isub, 1) := by decide +kernel
theorem dX2_isWord_10 : decode cX2_isWord 10 = .ok (.if_icmp .ne 7, 3) := by decide +kernel
theorem dX2_isWord_13 : decode cX2_isWord 13 = .ok (.iconst 1, 1) := by decide +kernel
theorem dX2_isWord_14 : decode cX2_isWord 14 = .ok (.goto 4, 3) := by decide +kernel
theorem dX2_isWord_17 : decode cX2_isWord 17 = .ok (.iconst 0, 1) := by decide +kernel
theorem dX2_isWord_18 : decode cX2_isWord 18 = .ok (.istore_n 3, 1) := by decide +kernel
theorem dX2_isWord_19 : decode cX2_isWord 19 = .ok (.iconst 0, 1) := by decide +kernel
theorem dX2_isWord_20 : decode cX2_isWord 20 = .ok (.istore 4, 2) := by decide +kernel
theorem dX2_isWord_22 : decode cX2_isWord 22 = .ok (.iload_n 3, 1) := by decide +kernel
theorem dX2_isWord_23 : decode cX2_isWord 23 = .ok (.ifCond .eq 44, 3) := by decide +kernel
theorem dX2_isWord_26 : decode cX2_isWord 26 = .ok (.iload 4, 2) := by decide +kernel
theorem dX2_isWord_28 : decode cX2_isWord 28 = .ok (.aload_n 1, 1) := by decide +kernel
theorem dX2_isWord_29 : decode cX2_isWord 29 = .ok (.invokevirtual 87, 3) := by decide +kernel
theorem dX2_isWord_32 : decode cX2_isWord 32 = .ok (.if_icmp .ge 35, 3) := by decide +kernel
theorem dX2_isWord_35 : decode cX2_isWord 35 = .ok (.aload_n 0, 1) := by decide +kernel
theorem dX2_isWord_36 : decode cX2_isWord 36 = .ok (.getfield 9, 3) := by decide +kernel
theorem dX2_isWord_39 : decode cX2_isWord 39 = .ok (.iload_n 2, 1) := by decide +kernel
theorem dX2_isWord_40 : decode cX2_isWord 40 = .ok (.iload 4, 2) := by decide +kernel
theorem dX2_isWord_42 : decode cX2_isWord 42 = .ok (.iadd, 1) := by decide +kernel
theorem dX2_isWord_43 : decode cX2_isWord 43 = .ok (.invokestatic 49, 3) := by decide +kernel
theorem dX2_isWord_46 : decode cX2_isWord 46 = .ok (.aload_n 1, 1) := by decide +kernel
theorem dX2_isWord_47 : decode cX2_isWord 47 = .ok (.iload 4, 2) := by decide +kernel
theorem dX2_isWord_49 : decode cX2_isWord 49 = .ok (.invokevirtual 91, 3) := by decide +kernel
theorem dX2_isWord_52 : decode cX2_isWord 52 = .ok (.if_icmp .ne 7, 3) := by decide +kernel
theorem dX2_isWord_55 : decode cX2_isWord 55 = .ok (.iconst 1, 1) := by decide +kernel
theorem dX2_isWord_56 : decode cX2_isWord 56 = .ok (.goto 4, 3) := by decide +kernel
theorem dX2_isWord_59 : decode cX2_isWord 59 = .ok (.iconst 0, 1) := by decide +kernel
theorem dX2_isWord_60 : decode cX2_isWord 60 = .ok (.istore_n 3, 1) := by decide +kernel
theorem dX2_isWord_61 : decode cX2_isWord 61 = .ok (.iinc 4 1, 3) := by decide +kernel
theorem dX2_isWord_64 : decode cX2_isWord 64 = .ok (.goto (-42), 3) := by decide +kernel
theorem dX2_isWord_67 : decode cX2_isWord 67 = .ok (.iload_n 3, 1) := by decide +kernel
theorem dX2_isWord_68 : decode cX2_isWord 68 = .ok (.ireturn, 1) := by decide +kernel
theorem hin_X2_isWord_X2 : ∀ w ∈ wsX20, w ∈ wsX2_isWord := by decide +kernel
theorem lk_X2_isWord_42 : Cond.fieldLink RX2 42 RX2 "cursor" "I" ∈ wsX2_isWord := by decide +kernel
theorem lk_X2_isWord_9 : Cond.fieldLink RX2 9 RX2 "bytes" "[I" ∈ wsX2_isWord := by decide +kernel
theorem t_isWord (hG : GP G) (hE : GE G) (hT : TxS S t) (hR : R32 mu) (hn : 0 ≤ mu t 2 ∧ mu t 2 ≤ 150) (hc : 0 ≤ c ∧ c ≤ mu t 2) {u : Int} (hu : 0 ≤ u ∧ u ≤ c) {j : Nat} (hj : j < 8) : Ct G l yX2_isWord wsX2_isWord 4 0 0 [.ref t, .ref (G.2.2.1 (j + 8)), .int (I32 u)] S n (txM mu t c f k N) la (Dt (some (.int (I32 (iwF mu t c u j)))) S n (txM mu t c f k N) la) := by
  have o2 := hT.1
  have bl := eRw_len j
  unfold iwF
  refine Ct.ofV (cc := cX2_isWord) (nL := 5) (ret := (some .boolean)) [some (.ref t), some (.ref (G.2.2.1 (j + 8))), some (.int (I32 u)), none, none] hG (by decide) rfl (Nat.le_of_ble_eq_true rfl) rfl ?_
  rintro X rfl rfl C hcl hsl E
  have hC := hE.c hj
  have loop0 : ∀ (i : Int), (((eRw j).length : Int) = c - u ∧ eqG (tB mu t) (eRw j) u = true → False) → V X 22 [some (.ref t), some (.ref ((xG X).2.2.1 (j + 8))), some (.int (I32 u)), some (.int (I32 0)), some (.int (I32 i))] [] S n (txM mu t c f k N) la 0 0 := by
    intro i h
    rw [if_neg h] at E
    refine V_iload_n C dX2_isWord_22 rfl ?_
    refine V_if_eq C 67 dX2_isWord_23 (by decide) (by omega) (fun z23 => ?_) (fun z23 => ?_)
    · refine V_iload_n C dX2_isWord_67 rfl ?_
      refine V_zreturn C E (by first | exact Or.inl rfl | exact Or.inr rfl) dX2_isWord_68 (by omega) (by omega) ?_
      exact Dt_rfl
    · exact absurd z23 (by first | omega | decide)
  have loop : ∀ (d i : Nat), i + d = (eRw j).length → ((eRw j).length : Int) = c - u → eqG (tB mu t) ((eRw j).drop i) (u + i) = eqG (tB mu t) (eRw j) u → V X 22 [some (.ref t), some (.ref ((xG X).2.2.1 (j + 8))), some (.int (I32 u)), some (.int (I32 1)), some (.int (I32 (i : Int)))] [] S n (txM mu t c f k N) la 0 0 := by
    intro d
    induction d with
    | zero =>
      intro i h1 h2 h3
      rw [List.drop_of_length_le (by omega)] at h3
      rw [if_pos ⟨h2, h3.symm⟩] at E
      refine V_iload_n C dX2_isWord_22 rfl ?_
      refine V_if_eq C 67 dX2_isWord_23 (by decide) (by omega) (fun z => ?_) (fun z => ?_)
      · exact absurd z (by omega)
      · refine V_iload C dX2_isWord_26 rfl ?_
        refine V_aload_n C dX2_isWord_28 rfl ?_
        refine V_callO C dX2_isWord_29 (j_length C.gp hC) (okV C 0 gX2_isWord_J0_length_8abf5 rfl (by decide +kernel) (by decide) (by decide)) (hC _ C.pe.2.2).2.1 rfl (Nat.le_of_ble_eq_true rfl) ⟨by omega, by omega⟩ rfl ?_
        refine V_icmp_ge C 67 dX2_isWord_32 (by decide) (by omega) (by omega) (fun z2 => ?_) (fun z2 => ?_)
        · refine V_iload_n C dX2_isWord_67 rfl ?_
          refine V_zreturn C E (by first | exact Or.inl rfl | exact Or.inr rfl | simp) dX2_isWord_68 (by omega) (by omega) ?_
          exact Dt_rfl
        · exact absurd z2 (by omega)
    | succ d ih =>
      intro i h1 h2 h3
      have hlt : i < (eRw j).length := by omega
      rw [List.drop_eq_getElem_cons hlt, eqG] at h3
      have bw := eRw_b j i
      have eg : (eRw j).getD i 0 = (eRw j)[i] := by rw [List.getD_eq_getElem?_getD, List.getElem?_eq_getElem hlt]; rfl
      refine V_iload_n C dX2_isWord_22 rfl ?_
      refine V_if_eq C 67 dX2_isWord_23 (by decide) (by omega) (fun z => ?_) (fun z => ?_)
      · exact absurd z (by omega)
      · refine V_iload C dX2_isWord_26 rfl ?_
        refine V_aload_n C dX2_isWord_28 rfl ?_
        refine V_callO C dX2_isWord_29 (j_length C.gp hC) (okV C 0 gX2_isWord_J0_length_8abf5 rfl (by decide +kernel) (by decide) (by decide)) (hC _ C.pe.2.2).2.1 rfl (Nat.le_of_ble_eq_true rfl) ⟨by omega, by omega⟩ rfl ?_
        refine V_icmp_ge C 67 dX2_isWord_32 (by decide) (by omega) (by omega) (fun z2 => ?_) (fun z2 => ?_)
        · exact absurd z2 (by omega)
        · refine V_aload_n C dX2_isWord_35 rfl ?_
          refine V_getR C 0 dX2_isWord_36 o2 rfl hin_X2_isWord_X2 (by decide) lk_X2_isWord_9 rfl rfl ?_
          refine V_iload_n C dX2_isWord_39 rfl ?_
          refine V_iload C dX2_isWord_40 rfl ?_
          refine V_iadd C dX2_isWord_42 ?_
          refine V_callSND (nA := 2) (host := "DockTree") C dX2_isWord_43 (c_atW C.gp hT.2.1 (by decide)) gX2_isWord_X8_at_n49 (by decide +kernel) (by decide +kernel) (by decide +kernel) rfl (by decide +kernel) rfl (by decide) (by decide) (Nat.le_of_ble_eq_true rfl) ⟨by omega, by omega⟩ rfl ?_
          rw [txg]
          have bt := tB_R hR t (u + i)
          refine V_aload_n C dX2_isWord_46 rfl ?_
          refine V_iload C dX2_isWord_47 rfl ?_
          refine V_callO C dX2_isWord_49 (j_charAt C.gp hE hC hlt) (okV C 1 gX2_isWord_J0_charAt_5068e rfl (by decide +kernel) (by decide) (by decide)) (hC _ C.pe.2.2).2.1 rfl (Nat.le_of_ble_eq_true rfl) ⟨by omega, by omega⟩ rfl ?_
          rw [show gK mu (t + 1) 150 (u + i) = tB mu t (u + i) from rfl]
          refine V_icmp_ne C 59 dX2_isWord_52 (by decide) (by omega) (by omega) (fun z3 => ?_) (fun z3 => ?_)
          · refine V_iconst C dX2_isWord_59 ?_
            refine V_istore_n C dX2_isWord_60 rfl (by decide) ?_
            refine V_iinc C dX2_isWord_61 rfl rfl (by decide) ?_
            refine V_goto C 22 dX2_isWord_64 (by decide) ?_
            rw [if_neg (by rw [← eg]; exact z3)] at h3
            exact loop0 _ (fun q => by rw [← h3] at q; exact absurd q.2 (by decide))
          · refine V_iconst C dX2_isWord_55 ?_
            refine V_goto C 60 dX2_isWord_56 (by decide) ?_
            refine V_istore_n C dX2_isWord_60 rfl (by decide) ?_
            refine V_iinc C dX2_isWord_61 rfl rfl (by decide) ?_
            refine V_goto C 22 dX2_isWord_64 (by decide) ?_
            rw [if_pos (by rw [← eg]; exact z3)] at h3
            exact ih (i + 1) (by omega) h2 (by rw [← h3, show u + (i : Int) + 1 = u + ((i + 1 : Nat) : Int) by omega])
  refine V_aload_n C dX2_isWord_0 rfl ?_
  refine V_callO C dX2_isWord_1 (j_length C.gp hC) (okV C 0 gX2_isWord_J0_length_8abf5 rfl (by decide +kernel) (by decide) (by decide)) (hC _ C.pe.2.2).2.1 rfl (Nat.le_of_ble_eq_true rfl) ⟨by omega, by omega⟩ rfl ?_
  refine V_aload_n C dX2_isWord_4 rfl ?_
  refine V_getJ C 3 3 rfl dX2_isWord_5 o2 rfl hin_X2_isWord_X2 (by decide) lk_X2_isWord_42 rfl rfl (by first | exact tx_3 | exact tx_4) ?_
  refine V_iload_n C dX2_isWord_8 rfl ?_
  refine V_isub C dX2_isWord_9 ?_
  refine V_icmp_ne C 17 dX2_isWord_10 (by decide) (by omega) (by omega) (fun z => ?_) (fun z => ?_)
  · refine V_iconst C dX2_isWord_17 ?_
    refine V_istore_n C dX2_isWord_18 rfl (by decide) ?_
    refine V_iconst C dX2_isWord_19 ?_
    refine V_istore C dX2_isWord_20 rfl (by decide) ?_
    exact loop0 _ (fun q => z q.1)
  · refine V_iconst C dX2_isWord_13 ?_
    refine V_goto C 18 dX2_isWord_14 (by decide) ?_
    refine V_istore_n C dX2_isWord_18 rfl (by decide) ?_
    refine V_iconst C dX2_isWord_19 ?_
    refine V_istore C dX2_isWord_20 rfl (by decide) ?_
    exact loop (eRw j).length 0 (by omega) z (by rw [List.drop_zero, show u + ((0 : Nat) : Int) = u by omega])
set_option maxRecDepth 20000 in
theorem ggX2_readWord_X2_here : GoodIn wsX2_readWord wsX2_here := goodIn_r _ [9, 1, 2, 10, 11, 12, 13, 67, 68, 69, 70, 71, 72] (by decide +kernel) (by decide +kernel)
set_option maxRecDepth 20000 in
theorem gX2_readWord_X2_here : GoodIn wsX2_readWord (wsV RX2 67 RX2 yX2_here wsX2_here) := goodIn_app (goodIn_of _ (by decide +kernel)) ggX2_readWord_X2_here
set_option maxRecDepth 20000 in
theorem ggX2_readWord_X2_isWord : GoodIn wsX2_readWord wsX2_isWord := goodIn_r _ [17, 1, 10, 18, 19, 20, 21, 22, 23, 24, 25, 26, 27, 28, 29, 11, 12, 13, 30, 31, 32, 33, 34, 35, 36, 37, 38, 39, 40, 41, 42, 43, 44, 45, 46, 47, 48, 49, 50, 51, 52, 53, 54, 55, 56, 57, 58, 59, 60, 61, 62, 63, 64, 65, 66, 67, 68, 69, 70, 71, 72] (by decide +kernel) (by decide +kernel)
set_option maxRecDepth 20000 in
theorem gX2_readWord_X2_isWord : GoodIn wsX2_readWord (wsV RX2 83 RX2 yX2_isWord wsX2_isWord) := goodIn_app (goodIn_of _ (by decide +kernel)) ggX2_readWord_X2_isWord
theorem dX2_readWord_0 : decode cX2_readWord 0 = .ok (.aload_n 0, 1) := by decide +kernel
theorem dX2_readWord_1 : decode cX2_readWord 1 = .ok (.getfield 42, 3) := by decide +kernel
theorem dX2_readWord_4 : decode cX2_readWord 4 = .ok (.istore_n 1, 1) := by decide +kernel
theorem dX2_readWord_5 : decode cX2_readWord 5 = .ok (.aload_n 0, 1) := by decide +kernel
theorem dX2_readWord_6 : decode cX2_readWord 6 = .ok (.getfield 42, 3) := by decide +kernel
theorem dX2_readWord_9 : decode cX2_readWord 9 = .ok (.aload_n 0, 1) := by decide +kernel
theorem dX2_readWord_10 : decode cX2_readWord 10 = .ok (.getfield 22, 3) := by decide +kernel
theorem dX2_readWord_13 : decode cX2_readWord 13 = .ok (.if_icmp .ge 34, 3) := by decide +kernel
theorem dX2_readWord_16 : decode cX2_readWord 16 = .ok (.aload_n 0, 1) := by decide +kernel
theorem dX2_readWord_17 : decode cX2_readWord 17 = .ok (.invokevirtual 67, 3) := by decide +kernel
theorem dX2_readWord_20 : decode cX2_readWord 20 = .ok (.bipush 97, 2) := by decide +kernel
theorem dX2_readWord_22 : decode cX2_readWord 22 = .ok (.if_icmp .lt 25, 3) := by decide +kernel
theorem dX2_readWord_25 : decode cX2_readWord 25 = .ok (.aload_n 0, 1) := by decide +kernel
theorem dX2_readWord_26 : decode cX2_readWord 26 = .ok (.invokevirtual 67, 3) := by decide +kernel
theorem dX2_readWord_29 : decode cX2_readWord 29 = .ok (.bipush 122, 2) := by decide +kernel
theorem dX2_readWord_31 : decode cX2_readWord 31 = .ok (.if_icmp .gt 16, 3) := by decide +kernel
theorem dX2_readWord_34 : decode cX2_readWord 34 = .ok (.aload_n 0, 1) := by decide +kernel
theorem dX2_readWord_35 : decode cX2_readWord 35 = .ok (.dup, 1) := by decide +kernel
theorem dX2_readWord_36 : decode cX2_readWord 36 = .ok (.getfield 42, 3) := by decide +kernel
theorem dX2_readWord_39 : decode cX2_readWord 39 = .ok (.iconst 1, 1) := by decide +kernel
theorem dX2_readWord_40 : decode cX2_readWord 40 = .ok (.iadd, 1) := by decide +kernel
theorem dX2_readWord_41 : decode cX2_readWord 41 = .ok (.putfield 42, 3) := by decide +kernel
theorem dX2_readWord_44 : decode cX2_readWord 44 = .ok (.goto (-39), 3) := by decide +kernel
theorem dX2_readWord_47 : decode cX2_readWord 47 = .ok (.aload_n 0, 1) := by decide +kernel
theorem dX2_readWord_48 : decode cX2_readWord 48 = .ok (.aconst_null, 1) := by decide +kernel
theorem dX2_readWord_49 : decode cX2_readWord 49 = .ok (.putfield 45, 3) := by decide +kernel
theorem dX2_readWord_52 : decode cX2_readWord 52 = .ok (.getstatic 75, 3) := by decide +kernel
theorem dX2_readWord_55 : decode cX2_readWord 55 = .ok (.astore_n 2, 1) := by decide +kernel
theorem dX2_readWord_56 : decode cX2_readWord 56 = .ok (.aload_n 2, 1) := by decide +kernel
theorem dX2_readWord_57 : decode cX2_readWord 57 = .ok (.arraylength, 1) := by decide +kernel
theorem dX2_readWord_58 : decode cX2_readWord 58 = .ok (.istore_n 3, 1) := by decide +kernel
theorem dX2_readWord_59 : decode cX2_readWord 59 = .ok (.iconst 0, 1) := by decide +kernel
theorem dX2_readWord_60 : decode cX2_readWord 60 = .ok (.istore 4, 2) := by decide +kernel
theorem dX2_readWord_62 : decode cX2_readWord 62 = .ok (.iload 4, 2) := by decide +kernel
theorem dX2_readWord_64 : decode cX2_readWord 64 = .ok (.iload_n 3, 1) := by decide +kernel
theorem dX2_readWord_65 : decode cX2_readWord 65 = .ok (.if_icmp .ge 34, 3) := by decide +kernel
theorem dX2_readWord_68 : decode cX2_readWord 68 = .ok (.aload_n 2, 1) := by decide +kernel
theorem dX2_readWord_69 : decode cX2_readWord 69 = .ok (.iload 4, 2) := by decide +kernel
theorem dX2_readWord_71 : decode cX2_readWord 71 = .ok (.aaload, 1) := by decide +kernel
theorem dX2_readWord_72 : decode cX2_readWord 72 = .ok (.astore 5, 2) := by decide +kernel
theorem dX2_readWord_74 : decode cX2_readWord 74 = .ok (.aload_n 0, 1) := by decide +kernel
theorem dX2_readWord_75 : decode cX2_readWord 75 = .ok (.aload 5, 2) := by decide +kernel
theorem dX2_readWord_77 : decode cX2_readWord 77 = .ok (.getfield 79, 3) := by decide +kernel
theorem dX2_readWord_80 : decode cX2_readWord 80 = .ok (.iload_n 1, 1) := by decide +kernel
theorem dX2_readWord_81 : decode cX2_readWord 81 = .ok (.invokevirtual 83, 3) := by decide +kernel
theorem dX2_readWord_84 : decode cX2_readWord 84 = .ok (.ifCond .eq 9, 3) := by decide +kernel
theorem dX2_readWord_87 : decode cX2_readWord 87 = .ok (.aload_n 0, 1) := by decide +kernel
theorem dX2_readWord_88 : decode cX2_readWord 88 = .ok (.aload 5, 2) := by decide +kernel
theorem dX2_readWord_90 : decode cX2_readWord 90 = .ok (.putfield 45, 3) := by decide +kernel
theorem dX2_readWord_93 : decode cX2_readWord 93 = .ok (.iinc 4 1, 3) := by decide +kernel
theorem dX2_readWord_96 : decode cX2_readWord 96 = .ok (.goto (-34), 3) := by decide +kernel
theorem dX2_readWord_99 : decode cX2_readWord 99 = .ok (.aload_n 0, 1) := by decide +kernel
theorem dX2_readWord_100 : decode cX2_readWord 100 = .ok (.getfield 45, 3) := by decide +kernel
theorem dX2_readWord_103 : decode cX2_readWord 103 = .ok (.ifnonnull 8, 3) := by decide +kernel
theorem dX2_readWord_106 : decode cX2_readWord 106 = .ok (.aload_n 0, 1) := by decide +kernel
theorem dX2_readWord_107 : decode cX2_readWord 107 = .ok (.iload_n 1, 1) := by decide +kernel
theorem dX2_readWord_108 : decode cX2_readWord 108 = .ok (.putfield 18, 3) := by decide +kernel
theorem dX2_readWord_111 : decode cX2_readWord 111 = .ok (.return_, 1) := by decide +kernel
theorem hin_X2_readWord_X2 : ∀ w ∈ wsX20, w ∈ wsX2_readWord := by decide +kernel
theorem lk_X2_readWord_42 : Cond.fieldLink RX2 42 RX2 "cursor" "I" ∈ wsX2_readWord := by decide +kernel
theorem lk_X2_readWord_22 : Cond.fieldLink RX2 22 RX2 "length" "I" ∈ wsX2_readWord := by decide +kernel
theorem lk_X2_readWord_45 : Cond.fieldLink RX2 45 RX2 "command" "LDockTree$Command;" ∈ wsX2_readWord := by decide +kernel
theorem lk_X2_readWord_18 : Cond.fieldLink RX2 18 RX2 "fault" "I" ∈ wsX2_readWord := by decide +kernel
theorem t_readWord (hG : GP G) (hE : GE G) (hT : TxS S t) (hR : R32 mu) (hn : 0 ≤ mu t 2 ∧ mu t 2 ≤ 150) (hc : 0 ≤ c ∧ c ≤ mu t 2) : Ct G l yX2_readWord wsX2_readWord 5 0 0 [.ref t] S n (txM mu t c f k N) la (Dt none S n (txM mu t (wdF mu t c) (if wrdG mu t (wdF mu t c) c 8 = 0 then c else f) (wrdG mu t (wdF mu t c) c 8) N) la) := by
  have o2 := hT.1
  have bw := wdF_b mu t hc
  generalize eR : wdF mu t c = R at bw
  refine Ct.ofV (cc := cX2_readWord) (nL := 6) (ret := none) [some (.ref t), none, none, none, none, none] hG (by decide) rfl (Nat.le_of_ble_eq_true rfl) rfl ?_
  rintro X rfl rfl C hcl hsl E
  have last : ∀ (w2 w5 : Option Value), V X 99 [some (.ref t), some (.int (I32 c)), w2, some (.int (I32 8)), some (.int (I32 8)), w5] [] S n (txM mu t R f (wrdG mu t R c 8) N) la 0 0 := by
    intro w2 w5
    have bk := wrdG_b mu t R c 8
    generalize wrdG mu t R c 8 = K at bk E
    refine V_aload_n C dX2_readWord_99 rfl ?_
    refine V_getE C 5 5 rfl dX2_readWord_100 o2 rfl hin_X2_readWord_X2 (by decide) lk_X2_readWord_45 rfl rfl tx_5 ?_
    by_cases hK : K = 0
    · subst hK
      rw [eRef_0 _ (by omega)]
      rw [if_pos rfl] at E
      refine V_ifnonnullN C dX2_readWord_103 ?_
      refine V_aload_n C dX2_readWord_106 rfl ?_
      refine V_iload_n C dX2_readWord_107 rfl ?_
      refine V_putJ C 4 4 rfl dX2_readWord_108 o2 rfl hin_X2_readWord_X2 tyX2 tyX2_ok nmX2 (by decide) lk_X2_readWord_18 rfl rfl (by decide +kernel) rfl (by first | exact txu_4 | exact txu_3) ?_
      refine V_return C E dX2_readWord_111 (by omega) (by omega) ?_
      exact Dt_rfl
    · obtain ⟨j, hj⟩ : ∃ j : Nat, K = (j : Int) + 1 := ⟨(K - 1).toNat, by omega⟩
      rw [if_neg hK] at E
      rw [hj, eRef_1]
      refine V_ifnonnull C 111 dX2_readWord_103 (by decide) ?_
      refine V_return C E dX2_readWord_111 (by omega) (by omega) ?_
      rw [← hj]
      exact Dt_rfl
  have loop2 : ∀ (aA : Nat), va_T (.object RX1) aA 8 (fun k => .ref ((xG X).2.2.1 k)) (gA (xG X)) (xS X) (xS X).heap → ∀ (d j : Nat) (w5 : Option Value), j + d = 8 → V X 62 [some (.ref t), some (.int (I32 c)), some (.ref aA), some (.int (I32 8)), some (.int (I32 (j : Int))), w5] [] S n (txM mu t R f (wrdG mu t R c j) N) la 0 0 := by
    intro aA hA d
    induction d with
    | zero =>
      intro j w5 h1
      have hj : j = 8 := by omega
      subst hj
      refine V_iload C dX2_readWord_62 rfl ?_
      refine V_iload_n C dX2_readWord_64 rfl ?_
      refine V_icmp_ge C 99 dX2_readWord_65 (by decide) (by omega) (by omega) (fun z => ?_) (fun z => ?_)
      · exact last _ _
      · exact absurd z (by decide)
    | succ d ih =>
      intro j w5 h1
      have hj : j < 8 := by omega
      have e := (hE _ C.pe.2.2).2.2.2.2 j hj
      have bi := iwF_b mu t R c j
      have h9 := ih (j + 1)
      rw [wrdG] at h9
      refine V_iload C dX2_readWord_62 rfl ?_
      refine V_iload_n C dX2_readWord_64 rfl ?_
      refine V_icmp_ge C 99 dX2_readWord_65 (by decide) (by omega) (by omega) (fun z => ?_) (fun z => ?_)
      · exact absurd z (by omega)
      · refine V_aload_n C dX2_readWord_68 rfl ?_
        refine V_iload C dX2_readWord_69 rfl ?_
        refine V_tq C dX2_readWord_71 hA (by omega) (by decide) ?_
        rw [Int.toNat_natCast]
        refine V_astore C dX2_readWord_72 rfl (by decide) ?_
        refine V_aload_n C dX2_readWord_74 rfl ?_
        refine V_aload C dX2_readWord_75 rfl ?_
        refine V_getfN C (host := "DockTree") dX2_readWord_77 e.2.2.2.1 (by decide +kernel) ?_
        refine V_iload_n C dX2_readWord_80 rfl ?_
        refine V_callVD (nA := 2) C dX2_readWord_81 (t_isWord C.gp hE hT hR hn (by omega) (by omega) hj) gX2_readWord_X2_isWord rfl o2 rfl (by decide +kernel) rfl (by decide) (by decide) (Nat.le_of_ble_eq_true rfl) ⟨by omega, by omega⟩ rfl ?_
        refine V_if_eq C 93 dX2_readWord_84 (by decide) (by omega) (fun z2 => ?_) (fun z2 => ?_)
        · rw [if_neg (by omega)] at h9
          refine V_iinc C dX2_readWord_93 rfl rfl (by decide) ?_
          refine V_goto C 62 dX2_readWord_96 (by decide) ?_
          exact h9 _ (by omega)
        · rw [if_pos (by omega)] at h9
          refine V_aload_n C dX2_readWord_87 rfl ?_
          refine V_aload C dX2_readWord_88 rfl ?_
          refine V_putE (Cx9 := RX1) C 5 5 rfl (v := (j : Int) + 1) (eRef_1 _ _).symm dX2_readWord_90 o2 rfl hin_X2_readWord_X2 tyX2 tyX2_ok nmX2 (by decide) lk_X2_readWord_45 rfl rfl (by decide +kernel) rfl txu_5 ?_
          refine V_iinc C dX2_readWord_93 rfl rfl (by decide) ?_
          refine V_goto C 62 dX2_readWord_96 (by decide) ?_
          exact h9 _ (by omega)
  have loop : ∀ (d : Nat) (c9 : Int), c9 + d = mu t 2 → 0 ≤ c9 → scG (tB mu t) 97 122 d c9 = R → V X 5 [some (.ref t), some (.int (I32 c)), none, none, none, none] [] S n (txM mu t c9 f k N) la 0 0 := by
    have step : V X 47 [some (.ref t), some (.int (I32 c)), none, none, none, none] [] S n (txM mu t R f k N) la 0 0 := by
      obtain ⟨⟨aA, e1, e2⟩, -⟩ := hE _ C.pe.2.2
      refine V_aload_n C dX2_readWord_47 rfl ?_
      refine V_null C dX2_readWord_48 ?_
      refine V_putE (Cx9 := RX1) C 5 5 rfl (v := 0) (eRef_0 _ (by decide)).symm dX2_readWord_49 o2 rfl hin_X2_readWord_X2 tyX2 tyX2_ok nmX2 (by decide) lk_X2_readWord_45 rfl rfl (by decide +kernel) rfl txu_5 ?_
      refine V_getsN C (host := "DockTree") dX2_readWord_52 e1 (by decide +kernel) ?_
      refine V_astore_n C dX2_readWord_55 rfl (by decide) ?_
      refine V_aload_n C dX2_readWord_56 rfl ?_
      refine V_tlen C dX2_readWord_57 e2 ?_
      refine V_istore_n C dX2_readWord_58 rfl (by decide) ?_
      refine V_iconst C dX2_readWord_59 ?_
      refine V_istore C dX2_readWord_60 rfl (by decide) ?_
      exact loop2 aA e2 8 0 none (by omega)
    intro d
    induction d with
    | zero =>
      intro c9 h1 h2 h3
      have h3 : R = c9 := h3.symm
      subst h3
      refine V_aload_n C dX2_readWord_5 rfl ?_
      refine V_getJ C 3 3 rfl dX2_readWord_6 o2 rfl hin_X2_readWord_X2 (by decide) lk_X2_readWord_42 rfl rfl (by first | exact tx_2 | exact tx_3) ?_
      refine V_aload_n C dX2_readWord_9 rfl ?_
      refine V_getJ C 2 2 rfl dX2_readWord_10 o2 rfl hin_X2_readWord_X2 (by decide) lk_X2_readWord_22 rfl rfl (by first | exact tx_2 | exact tx_3) ?_
      refine V_icmp_ge C 47 dX2_readWord_13 (by decide) (by omega) (by omega) (fun z => ?_) (fun z => ?_)
      · exact step
      · exact absurd z (by omega)
    | succ d ih =>
      intro c9 h1 h2 h3
      rw [scG] at h3
      have bh := tH_R hR t c9
      have eh : tH mu t c9 = tB mu t c9 := by rw [tH, if_pos (by omega)]
      refine V_aload_n C dX2_readWord_5 rfl ?_
      refine V_getJ C 3 3 rfl dX2_readWord_6 o2 rfl hin_X2_readWord_X2 (by decide) lk_X2_readWord_42 rfl rfl (by first | exact tx_2 | exact tx_3) ?_
      refine V_aload_n C dX2_readWord_9 rfl ?_
      refine V_getJ C 2 2 rfl dX2_readWord_10 o2 rfl hin_X2_readWord_X2 (by decide) lk_X2_readWord_22 rfl rfl (by first | exact tx_2 | exact tx_3) ?_
      refine V_icmp_ge C 47 dX2_readWord_13 (by decide) (by omega) (by omega) (fun z13 => ?_) (fun z13 => ?_)
      · exact absurd z13 (by first | omega | decide)
      · refine V_aload_n C dX2_readWord_16 rfl ?_
        refine V_callVD (nA := 0) C dX2_readWord_17 (t_here C.gp hT hn (by omega)) gX2_readWord_X2_here rfl o2 rfl (by decide +kernel) rfl (by decide) (by decide) (Nat.le_of_ble_eq_true rfl) ⟨by omega, by omega⟩ rfl ?_
        refine V_bipush C dX2_readWord_20 (by decide +kernel) ?_
        refine V_icmp_lt C 47 dX2_readWord_22 (by decide) (by omega) (by omega) (fun z22 => ?_) (fun z22 => ?_)
        · rw [if_neg (by omega)] at h3
          subst h3
          exact step
        · refine V_aload_n C dX2_readWord_25 rfl ?_
          refine V_callVD (nA := 0) C dX2_readWord_26 (t_here C.gp hT hn (by omega)) gX2_readWord_X2_here rfl o2 rfl (by decide +kernel) rfl (by decide) (by decide) (Nat.le_of_ble_eq_true rfl) ⟨by omega, by omega⟩ rfl ?_
          refine V_bipush C dX2_readWord_29 (by decide +kernel) ?_
          refine V_icmp_gt C 47 dX2_readWord_31 (by decide) (by omega) (by omega) (fun z31 => ?_) (fun z31 => ?_)
          · rw [if_neg (by omega)] at h3
            subst h3
            exact step
          · refine V_aload_n C dX2_readWord_34 rfl ?_
            refine V_dup C dX2_readWord_35 rfl ?_
            refine V_getJ C 3 3 rfl dX2_readWord_36 o2 rfl hin_X2_readWord_X2 (by decide) lk_X2_readWord_42 rfl rfl (by first | exact tx_2 | exact tx_3) ?_
            refine V_iconst C dX2_readWord_39 ?_
            refine V_iadd C dX2_readWord_40 ?_
            refine V_putJ C 3 3 rfl dX2_readWord_41 o2 rfl hin_X2_readWord_X2 tyX2 tyX2_ok nmX2 (by decide) lk_X2_readWord_42 rfl rfl (by decide +kernel) rfl (by first | exact txu_3 | exact txu_4) ?_
            refine V_goto C 5 dX2_readWord_44 (by decide) ?_
            rw [if_pos (by omega)] at h3
            exact ih _ (by omega) (by omega) h3
  refine V_aload_n C dX2_readWord_0 rfl ?_
  refine V_getJ C 3 3 rfl dX2_readWord_1 o2 rfl hin_X2_readWord_X2 (by decide) lk_X2_readWord_42 rfl rfl (by first | exact tx_2 | exact tx_3) ?_
  refine V_istore_n C dX2_readWord_4 rfl (by decide) ?_
  exact loop (mu t 2 - c).toNat c (by omega) hc.1 (by rw [← eR]; rfl)
set_option maxRecDepth 20000 in
theorem ggX2_readNext_X2_skipSpaces : GoodIn wsX2_readNext wsX2_skipSpaces := goodIn_r _ [9, 1, 2, 10, 11, 12, 8, 13, 14, 15, 16, 17, 90, 91, 92, 93, 94, 95] (by decide +kernel) (by decide +kernel)
set_option maxRecDepth 20000 in
theorem gX2_readNext_X2_skipSpaces : GoodIn wsX2_readNext (wsV RX2 53 RX2 yX2_skipSpaces wsX2_skipSpaces) := goodIn_app (goodIn_of _ (by decide +kernel)) ggX2_readNext_X2_skipSpaces
set_option maxRecDepth 20000 in
theorem ggX2_readNext_X2_readWord : GoodIn wsX2_readNext wsX2_readWord := goodIn_r _ [21, 1, 2, 3, 4, 10, 11, 12, 8, 13, 14, 15, 16, 17, 22, 23, 24, 25, 26, 27, 28, 29, 30, 31, 32, 33, 34, 35, 36, 37, 38, 39, 40, 41, 42, 43, 44, 45, 46, 47, 48, 49, 50, 51, 52, 53, 54, 55, 56, 57, 58, 59, 60, 61, 62, 63, 64, 65, 66, 67, 68, 69, 70, 71, 72, 73, 74, 90, 91, 92, 93, 94, 95] (by decide +kernel) (by decide +kernel)
set_option maxRecDepth 20000 in
theorem gX2_readNext_X2_readWord : GoodIn wsX2_readNext (wsV RX2 56 RX2 yX2_readWord wsX2_readWord) := goodIn_app (goodIn_of _ (by decide +kernel)) ggX2_readNext_X2_readWord
set_option maxRecDepth 20000 in
theorem ggX2_readNext_X2_readNumber : GoodIn wsX2_readNext wsX2_readNumber := goodIn_r _ [78, 4, 1, 79, 10, 11, 12, 8, 13, 2, 14, 15, 16, 17, 80, 81, 82, 83, 5, 6, 7, 9, 84, 85, 86, 87, 88, 89, 90, 91, 92, 93, 94, 95] (by decide +kernel) (by decide +kernel)
set_option maxRecDepth 20000 in
theorem gX2_readNext_X2_readNumber : GoodIn wsX2_readNext (wsV RX2 63 RX2 yX2_readNumber wsX2_readNumber) := goodIn_app (goodIn_of _ (by decide +kernel)) ggX2_readNext_X2_readNumber
set_option maxRecDepth 20000 in
theorem ggX2_readNext_X2_here : GoodIn wsX2_readNext wsX2_here := goodIn_r _ [13, 1, 2, 14, 15, 16, 17, 90, 91, 92, 93, 94, 95] (by decide +kernel) (by decide +kernel)
set_option maxRecDepth 20000 in
theorem gX2_readNext_X2_here : GoodIn wsX2_readNext (wsV RX2 67 RX2 yX2_here wsX2_here) := goodIn_app (goodIn_of _ (by decide +kernel)) ggX2_readNext_X2_here
set_option maxRecDepth 20000 in
theorem ggX2_readNext_X2_pass : GoodIn wsX2_readNext wsX2_pass := goodIn_r _ [83, 1, 4, 90, 91, 92, 93, 94, 95] (by decide +kernel) (by decide +kernel)
set_option maxRecDepth 20000 in
theorem gX2_readNext_X2_pass : GoodIn wsX2_readNext (wsV RX2 71 RX2 yX2_pass wsX2_pass) := goodIn_app (goodIn_of _ (by decide +kernel)) ggX2_readNext_X2_pass
theorem dX2_readNext_0 : decode cX2_readNext 0 = .ok (.aload_n 0, 1) := by decide +kernel
theorem dX2_readNext_1 : decode cX2_readNext 1 = .ok (.invokevirtual 53, 3) := by decide +kernel
theorem dX2_readNext_4 : decode cX2_readNext 4 = .ok (.aload_n 0, 1) := by decide +kernel
theorem dX2_readNext_5 : decode cX2_readNext 5 = .ok (.getfield 42, 3) := by decide +kernel
theorem dX2_readNext_8 : decode cX2_readNext 8 = .ok (.aload_n 0, 1) := by decide +kernel
theorem dX2_readNext_9 : decode cX2_readNext 9 = .ok (.getfield 22, 3) := by decide +kernel
theorem dX2_readNext_12 : decode cX2_readNext 12 = .ok (.if_icmp .lt 5, 3) := by decide +kernel
theorem dX2_readNext_15 : decode cX2_readNext 15 = .ok (.iconst 0, 1) := by decide +kernel
theorem dX2_readNext_16 : decode cX2_readNext 16 = .ok (.ireturn, 1) := by decide +kernel
theorem dX2_readNext_17 : decode cX2_readNext 17 = .ok (.aload_n 0, 1) := by decide +kernel
theorem dX2_readNext_18 : decode cX2_readNext 18 = .ok (.invokevirtual 56, 3) := by decide +kernel
theorem dX2_readNext_21 : decode cX2_readNext 21 = .ok (.aload_n 0, 1) := by decide +kernel
theorem dX2_readNext_22 : decode cX2_readNext 22 = .ok (.getfield 45, 3) := by decide +kernel
theorem dX2_readNext_25 : decode cX2_readNext 25 = .ok (.ifnull 13, 3) := by decide +kernel
theorem dX2_readNext_28 : decode cX2_readNext 28 = .ok (.aload_n 0, 1) := by decide +kernel
theorem dX2_readNext_29 : decode cX2_readNext 29 = .ok (.getfield 45, 3) := by decide +kernel
theorem dX2_readNext_32 : decode cX2_readNext 32 = .ok (.getfield 59, 3) := by decide +kernel
theorem dX2_readNext_35 : decode cX2_readNext 35 = .ok (.goto 4, 3) := by decide +kernel
theorem dX2_readNext_38 : decode cX2_readNext 38 = .ok (.iconst 0, 1) := by decide +kernel
theorem dX2_readNext_39 : decode cX2_readNext 39 = .ok (.istore_n 1, 1) := by decide +kernel
theorem dX2_readNext_40 : decode cX2_readNext 40 = .ok (.iconst 0, 1) := by decide +kernel
theorem dX2_readNext_41 : decode cX2_readNext 41 = .ok (.istore_n 2, 1) := by decide +kernel
theorem dX2_readNext_42 : decode cX2_readNext 42 = .ok (.iload_n 2, 1) := by decide +kernel
theorem dX2_readNext_43 : decode cX2_readNext 43 = .ok (.iload_n 1, 1) := by decide +kernel
theorem dX2_readNext_44 : decode cX2_readNext 44 = .ok (.if_icmp .ge 22, 3) := by decide +kernel
theorem dX2_readNext_47 : decode cX2_readNext 47 = .ok (.aload_n 0, 1) := by decide +kernel
theorem dX2_readNext_48 : decode cX2_readNext 48 = .ok (.getfield 18, 3) := by decide +kernel
theorem dX2_readNext_51 : decode cX2_readNext 51 = .ok (.iconst (-1), 1) := by decide +kernel
theorem dX2_readNext_52 : decode cX2_readNext 52 = .ok (.if_icmp .ne 14, 3) := by decide +kernel
theorem dX2_readNext_55 : decode cX2_readNext 55 = .ok (.aload_n 0, 1) := by decide +kernel
theorem dX2_readNext_56 : decode cX2_readNext 56 = .ok (.iload_n 2, 1) := by decide +kernel
theorem dX2_readNext_57 : decode cX2_readNext 57 = .ok (.invokevirtual 63, 3) := by decide +kernel
theorem dX2_readNext_60 : decode cX2_readNext 60 = .ok (.iinc 2 1, 3) := by decide +kernel
theorem dX2_readNext_63 : decode cX2_readNext 63 = .ok (.goto (-21), 3) := by decide +kernel
theorem dX2_readNext_66 : decode cX2_readNext 66 = .ok (.aload_n 0, 1) := by decide +kernel
theorem dX2_readNext_67 : decode cX2_readNext 67 = .ok (.getfield 18, 3) := by decide +kernel
theorem dX2_readNext_70 : decode cX2_readNext 70 = .ok (.iconst (-1), 1) := by decide +kernel
theorem dX2_readNext_71 : decode cX2_readNext 71 = .ok (.if_icmp .ne 25, 3) := by decide +kernel
theorem dX2_readNext_74 : decode cX2_readNext 74 = .ok (.aload_n 0, 1) := by decide +kernel
theorem dX2_readNext_75 : decode cX2_readNext 75 = .ok (.invokevirtual 53, 3) := by decide +kernel
theorem dX2_readNext_78 : decode cX2_readNext 78 = .ok (.aload_n 0, 1) := by decide +kernel
theorem dX2_readNext_79 : decode cX2_readNext 79 = .ok (.aload_n 0, 1) := by decide +kernel
theorem dX2_readNext_80 : decode cX2_readNext 80 = .ok (.invokevirtual 67, 3) := by decide +kernel
theorem dX2_readNext_83 : decode cX2_readNext 83 = .ok (.bipush 59, 2) := by decide +kernel
theorem dX2_readNext_85 : decode cX2_readNext 85 = .ok (.if_icmp .ne 7, 3) := by decide +kernel
theorem dX2_readNext_88 : decode cX2_readNext 88 = .ok (.iconst 1, 1) := by decide +kernel
theorem dX2_readNext_89 : decode cX2_readNext 89 = .ok (.goto 4, 3) := by decide +kernel
theorem dX2_readNext_92 : decode cX2_readNext 92 = .ok (.iconst 0, 1) := by decide +kernel
theorem dX2_readNext_93 : decode cX2_readNext 93 = .ok (.invokevirtual 71, 3) := by decide +kernel
theorem dX2_readNext_96 : decode cX2_readNext 96 = .ok (.aload_n 0, 1) := by decide +kernel
theorem dX2_readNext_97 : decode cX2_readNext 97 = .ok (.getfield 18, 3) := by decide +kernel
theorem dX2_readNext_100 : decode cX2_readNext 100 = .ok (.iconst (-1), 1) := by decide +kernel
theorem dX2_readNext_101 : decode cX2_readNext 101 = .ok (.if_icmp .ne 7, 3) := by decide +kernel
theorem dX2_readNext_104 : decode cX2_readNext 104 = .ok (.iconst 1, 1) := by decide +kernel
theorem dX2_readNext_105 : decode cX2_readNext 105 = .ok (.goto 4, 3) := by decide +kernel
theorem dX2_readNext_108 : decode cX2_readNext 108 = .ok (.iconst 0, 1) := by decide +kernel
theorem dX2_readNext_109 : decode cX2_readNext 109 = .ok (.ireturn, 1) := by decide +kernel
theorem hin_X2_readNext_X2 : ∀ w ∈ wsX20, w ∈ wsX2_readNext := by decide +kernel
theorem lk_X2_readNext_42 : Cond.fieldLink RX2 42 RX2 "cursor" "I" ∈ wsX2_readNext := by decide +kernel
theorem lk_X2_readNext_22 : Cond.fieldLink RX2 22 RX2 "length" "I" ∈ wsX2_readNext := by decide +kernel
theorem lk_X2_readNext_45 : Cond.fieldLink RX2 45 RX2 "command" "LDockTree$Command;" ∈ wsX2_readNext := by decide +kernel
theorem lk_X2_readNext_18 : Cond.fieldLink RX2 18 RX2 "fault" "I" ∈ wsX2_readNext := by decide +kernel
theorem t_readNext (hG : GP G) (hE : GE G) (hT : TxS S t) (hR : R32 mu) (hn : 0 ≤ mu t 2 ∧ mu t 2 ≤ 150) (hc : 0 ≤ c ∧ c ≤ mu t 2) (hk : 0 ≤ k ∧ k ≤ 8) : Ct G l yX2_readNext wsX2_readNext 6 0 0 [.ref t] S n (txM mu t c (-1) k N) la (Dt (some (.int (I32 (rnF mu t c k N).1))) S n (txM mu t (rnF mu t c k N).2.1 (rnF mu t c k N).2.2.1 (rnF mu t c k N).2.2.2.1 (rnF mu t c k N).2.2.2.2) la) := by
  have o2 := hT.1
  have b1 := skF_b mu t hc
  unfold rnF
  refine Ct.ofV (cc := cX2_readNext) (nL := 3) (ret := (some .boolean)) [some (.ref t), none, none] hG (by decide) rfl (Nat.le_of_ble_eq_true rfl) rfl ?_
  rintro X rfl rfl C hcl hsl E
  refine V_aload_n C dX2_readNext_0 rfl ?_
  refine V_callVD (nA := 0) C dX2_readNext_1 (t_skipSpaces C.gp hT hR hn hc) gX2_readNext_X2_skipSpaces rfl o2 rfl (by decide +kernel) rfl (by decide) (by decide) (Nat.le_of_ble_eq_true rfl) ⟨by omega, by omega⟩ rfl ?_
  generalize skF mu t c = c1 at b1 E
  refine V_aload_n C dX2_readNext_4 rfl ?_
  refine V_getJ C 3 3 rfl dX2_readNext_5 o2 rfl hin_X2_readNext_X2 (by decide) lk_X2_readNext_42 rfl rfl (by first | exact tx_2 | exact tx_3) ?_
  refine V_aload_n C dX2_readNext_8 rfl ?_
  refine V_getJ C 2 2 rfl dX2_readNext_9 o2 rfl hin_X2_readNext_X2 (by decide) lk_X2_readNext_22 rfl rfl (by first | exact tx_2 | exact tx_3) ?_
  refine V_icmp_lt C 17 dX2_readNext_12 (by decide) (by omega) (by omega) (fun z => ?_) (fun z => ?_)
  · have b2 := wdF_b mu t (c := c1) (by omega)
    have b3 := wrdG_b mu t (wdF mu t c1) c1 8
    rw [if_neg (by omega)] at E
    unfold rnB at E
    refine V_aload_n C dX2_readNext_17 rfl ?_
    refine V_callVD (nA := 0) C dX2_readNext_18 (t_readWord C.gp hE hT hR hn (by omega)) gX2_readNext_X2_readWord rfl o2 rfl (by decide +kernel) rfl (by decide) (by decide) (Nat.le_of_ble_eq_true rfl) ⟨by omega, by omega⟩ rfl ?_
    generalize wrdG mu t (wdF mu t c1) c1 8 = K at b3 E
    generalize wdF mu t c1 = c2 at b2 E
    have b4 := enN_b K
    generalize hf1 : (if K = 0 then c1 else (-1 : Int)) = f1 at E
    have bf1 : -1 ≤ f1 ∧ f1 ≤ mu t 2 := by subst hf1; split <;> omega
    have b5 := rlG_b mu t (enN K).toNat 0 c2 f1 N (by omega) bf1
    generalize eQ : rlG mu t (enN K).toNat 0 c2 f1 N = Q at b5 E
    have last : ∀ (i : Int), V X 66 [some (.ref t), some (.int (I32 (enN K))), some (.int (I32 i))] [] S n (txM mu t Q.1 Q.2.1 K Q.2.2) la 0 0 := by
      intro i
      unfold rnA at E
      refine V_aload_n C dX2_readNext_66 rfl ?_
      refine V_getJ C 4 4 rfl dX2_readNext_67 o2 rfl hin_X2_readNext_X2 (by decide) lk_X2_readNext_18 rfl rfl (by first | exact tx_4 | exact tx_3) ?_
      refine V_iconst C dX2_readNext_70 ?_
      refine V_icmp_ne C 96 dX2_readNext_71 (by decide) (by omega) (by omega) (fun z3 => ?_) (fun z3 => ?_)
      · rw [if_neg (by omega)] at E
        refine V_aload_n C dX2_readNext_96 rfl ?_
        refine V_getJ C 4 4 rfl dX2_readNext_97 o2 rfl hin_X2_readNext_X2 (by decide) lk_X2_readNext_18 rfl rfl (by first | exact tx_4 | exact tx_3) ?_
        refine V_iconst C dX2_readNext_100 ?_
        refine V_icmp_ne C 108 dX2_readNext_101 (by decide) (by omega) (by omega) (fun z4 => ?_) (fun z4 => ?_)
        · refine V_iconst C dX2_readNext_108 ?_
          refine V_zreturn C E (by first | exact Or.inl rfl | exact Or.inr rfl | simp) dX2_readNext_109 (by omega) (by omega) ?_
          exact Dt_rfl
        · exact absurd z4 z3
      · rw [if_pos z3] at E
        rw [z3]
        have b6 := skF_b mu t (c := Q.1) (by omega)
        refine V_aload_n C dX2_readNext_74 rfl ?_
        refine V_callVD (nA := 0) C dX2_readNext_75 (t_skipSpaces C.gp hT hR hn (by omega)) gX2_readNext_X2_skipSpaces rfl o2 rfl (by decide +kernel) rfl (by decide) (by decide) (Nat.le_of_ble_eq_true rfl) ⟨by omega, by omega⟩ rfl ?_
        generalize skF mu t Q.1 = c4 at b6 E
        have b7 := tH_R hR t c4
        refine V_aload_n C dX2_readNext_78 rfl ?_
        refine V_aload_n C dX2_readNext_79 rfl ?_
        refine V_callVD (nA := 0) C dX2_readNext_80 (t_here C.gp hT hn (by omega)) gX2_readNext_X2_here rfl o2 rfl (by decide +kernel) rfl (by decide) (by decide) (Nat.le_of_ble_eq_true rfl) ⟨by omega, by omega⟩ rfl ?_
        refine V_bipush C dX2_readNext_83 (by decide +kernel) ?_
        refine V_icmp_ne C 92 dX2_readNext_85 (by decide) (by omega) (by omega) (fun z4 => ?_) (fun z4 => ?_)
        · rw [if_neg (by omega)] at E
          refine V_iconst C dX2_readNext_92 ?_
          refine V_callVD (nA := 1) C dX2_readNext_93 (t_pass0 C.gp hT) gX2_readNext_X2_pass rfl o2 rfl (by decide +kernel) rfl (by decide) (by decide) (Nat.le_of_ble_eq_true rfl) ⟨by omega, by omega⟩ rfl ?_
          refine V_aload_n C dX2_readNext_96 rfl ?_
          refine V_getJ C 4 4 rfl dX2_readNext_97 o2 rfl hin_X2_readNext_X2 (by decide) lk_X2_readNext_18 rfl rfl (by first | exact tx_4 | exact tx_3) ?_
          refine V_iconst C dX2_readNext_100 ?_
          refine V_icmp_ne C 108 dX2_readNext_101 (by decide) (by omega) (by omega) (fun z5 => ?_) (fun z5 => ?_)
          · refine V_iconst C dX2_readNext_108 ?_
            refine V_zreturn C E (by first | exact Or.inl rfl | exact Or.inr rfl | simp) dX2_readNext_109 (by omega) (by omega) ?_
            exact Dt_rfl
          · exact absurd z5 (by omega)
        · rw [if_pos z4] at E
          refine V_iconst C dX2_readNext_88 ?_
          refine V_goto C 93 dX2_readNext_89 (by decide) ?_
          refine V_callVD (nA := 1) C dX2_readNext_93 (t_pass1 C.gp hT) gX2_readNext_X2_pass rfl o2 rfl (by decide +kernel) rfl (by decide) (by decide) (Nat.le_of_ble_eq_true rfl) ⟨by omega, by omega⟩ rfl ?_
          refine V_aload_n C dX2_readNext_96 rfl ?_
          refine V_getJ C 4 4 rfl dX2_readNext_97 o2 rfl hin_X2_readNext_X2 (by decide) lk_X2_readNext_18 rfl rfl (by first | exact tx_4 | exact tx_3) ?_
          refine V_iconst C dX2_readNext_100 ?_
          refine V_icmp_ne C 108 dX2_readNext_101 (by decide) (by omega) (by omega) (fun z5 => ?_) (fun z5 => ?_)
          · exact absurd rfl z5
          · refine V_iconst C dX2_readNext_104 ?_
            refine V_goto C 109 dX2_readNext_105 (by decide) ?_
            refine V_zreturn C E (by first | exact Or.inl rfl | exact Or.inr rfl | simp) dX2_readNext_109 (by omega) (by omega) ?_
            exact Dt_rfl
    have loop : ∀ (d : Nat) (i c9 f9 : Int) (N9 : Int → Int), i + d = enN K → 0 ≤ i → (0 ≤ c9 ∧ c9 ≤ mu t 2) → (-1 ≤ f9 ∧ f9 ≤ mu t 2) → rlG mu t d i c9 f9 N9 = Q → V X 42 [some (.ref t), some (.int (I32 (enN K))), some (.int (I32 i))] [] S n (txM mu t c9 f9 K N9) la 0 0 := by
      intro d
      induction d with
      | zero =>
        intro i c9 f9 N9 h1 h2 h3 h4 h5
        have h5 : Q = (c9, f9, N9) := h5.symm
        have h8 := last i
        rw [h5] at h8
        refine V_iload_n C dX2_readNext_42 rfl ?_
        refine V_iload_n C dX2_readNext_43 rfl ?_
        refine V_icmp_ge C 66 dX2_readNext_44 (by decide) (by omega) (by omega) (fun z3 => ?_) (fun z3 => ?_)
        · exact h8
        · exact absurd z3 (by omega)
      | succ d ih =>
        intro i c9 f9 N9 h1 h2 h3 h4 h5
        rw [rlG] at h5
        refine V_iload_n C dX2_readNext_42 rfl ?_
        refine V_iload_n C dX2_readNext_43 rfl ?_
        refine V_icmp_ge C 66 dX2_readNext_44 (by decide) (by omega) (by omega) (fun z3 => ?_) (fun z3 => ?_)
        · exact absurd z3 (by omega)
        · refine V_aload_n C dX2_readNext_47 rfl ?_
          refine V_getJ C 4 4 rfl dX2_readNext_48 o2 rfl hin_X2_readNext_X2 (by decide) lk_X2_readNext_18 rfl rfl (by first | exact tx_4 | exact tx_3) ?_
          refine V_iconst C dX2_readNext_51 ?_
          refine V_icmp_ne C 66 dX2_readNext_52 (by decide) (by omega) (by omega) (fun z4 => ?_) (fun z4 => ?_)
          · rw [if_neg z4] at h5
            have h5 : Q = (c9, f9, N9) := h5.symm
            have h8 := last i
            rw [h5] at h8
            exact h8
          · rw [if_pos z4] at h5
            rw [z4]
            have b8 := rmF_b mu t i N9 h3
            refine V_aload_n C dX2_readNext_55 rfl ?_
            refine V_iload_n C dX2_readNext_56 rfl ?_
            refine V_callVD (nA := 1) C dX2_readNext_57 (t_readNumber C.gp hT hR hn h3 (by omega)) gX2_readNext_X2_readNumber rfl o2 rfl (by decide +kernel) rfl (by decide) (by decide) (Nat.le_of_ble_eq_true rfl) ⟨by omega, by omega⟩ rfl ?_
            refine V_iinc C dX2_readNext_60 rfl rfl (by decide) ?_
            refine V_goto C 42 dX2_readNext_63 (by decide) ?_
            exact ih _ _ _ _ (by omega) (by omega) (by omega) (by omega) h5
    have cont : V X 39 [some (.ref t), none, none] [.int (I32 (enN K))] S n (txM mu t c2 f1 K N) la 0 0 := by
      refine V_istore_n C dX2_readNext_39 rfl (by decide) ?_
      refine V_iconst C dX2_readNext_40 ?_
      refine V_istore_n C dX2_readNext_41 rfl (by decide) ?_
      exact loop (enN K).toNat 0 c2 f1 N (by omega) (by omega) (by omega) bf1 eQ
    refine V_aload_n C dX2_readNext_21 rfl ?_
    refine V_getE C 5 5 rfl dX2_readNext_22 o2 rfl hin_X2_readNext_X2 (by decide) lk_X2_readNext_45 rfl rfl tx_5 ?_
    by_cases hK : K = 0
    · rw [eRef_0 _ (by omega)]
      refine V_ifnullN C 38 dX2_readNext_25 (by decide) ?_
      rw [show enN K = 0 by rw [enN, if_pos (by omega)]] at cont
      refine V_iconst C dX2_readNext_38 ?_
      exact cont
    · obtain ⟨j, hj⟩ : ∃ j : Nat, K = (j : Int) + 1 := ⟨(K - 1).toNat, by omega⟩
      rw [hj, eRef_1, ← hj]
      refine V_ifnull C dX2_readNext_25 ?_
      refine V_aload_n C dX2_readNext_28 rfl ?_
      refine V_getE C 5 5 rfl dX2_readNext_29 o2 rfl hin_X2_readNext_X2 (by decide) lk_X2_readNext_45 rfl rfl tx_5 ?_
      rw [show eRef (xG X) K = .ref ((xG X).2.2.1 j) by rw [hj, eRef_1]]
      have e := (hE _ C.pe.2.2).2.2.2.2 j (by omega)
      refine V_getfN C (host := "DockTree") dX2_readNext_32 e.2.1 (by decide +kernel) ?_
      rw [show eRn j = enN K by rw [enN, if_neg (by omega), hj]; congr 1; omega]
      refine V_goto C 39 dX2_readNext_35 (by decide) ?_
      exact cont
  · rw [if_pos (by omega)] at E
    refine V_iconst C dX2_readNext_15 ?_
    refine V_zreturn C E (by first | exact Or.inl rfl | exact Or.inr rfl | simp) dX2_readNext_16 (by omega) (by omega) ?_
    exact Dt_rfl
/-- the fault of the whole text: reads on from x -/
def ftaG (mu : Mem) (t : Nat) : Nat → Tx → Tx
  | 0, x => x
  | d + 1, x => if (rnF mu t x.1 x.2.2.1 x.2.2.2).1 = 1 then ftaG mu t d (rnF mu t x.1 x.2.2.1 x.2.2.2).2 else (rnF mu t x.1 x.2.2.1 x.2.2.2).2
def ftaF (mu : Mem) (t : Nat) (k : Int) (N : Int → Int) : Tx := ftaG mu t 150 (0, -1, k, N)
abbrev txT (mu : Mem) (t : Nat) (x : Tx) : Mem := txM mu t x.1 x.2.1 x.2.2.1 x.2.2.2
set_option maxRecDepth 20000 in
theorem ggX2_faultOfAll_X2_startReading : GoodIn wsX2_faultOfAll wsX2_startReading := goodIn_r _ [6, 7, 1, 98, 99, 100, 101, 102, 103] (by decide +kernel) (by decide +kernel)
set_option maxRecDepth 20000 in
theorem gX2_faultOfAll_X2_startReading : GoodIn wsX2_faultOfAll (wsV RX2 35 RX2 yX2_startReading wsX2_startReading) := goodIn_app (goodIn_of _ (by decide +kernel)) ggX2_faultOfAll_X2_startReading
set_option maxRecDepth 20000 in
theorem ggX2_faultOfAll_X2_readNext : GoodIn wsX2_faultOfAll wsX2_readNext := goodIn_r _ [11, 7, 12, 13, 1, 14, 15, 16, 5, 17, 18, 19, 20, 21, 22, 23, 24, 25, 26, 27, 28, 29, 30, 31, 32, 33, 34, 35, 36, 37, 38, 39, 40, 41, 42, 43, 44, 45, 46, 47, 48, 49, 50, 51, 52, 53, 54, 55, 56, 57, 58, 59, 60, 61, 62, 63, 64, 65, 66, 67, 68, 69, 70, 71, 72, 73, 74, 75, 76, 77, 78, 79, 80, 81, 82, 83, 84, 85, 86, 87, 88, 89, 90, 91, 92, 93, 94, 95, 96, 97, 98, 99, 100, 101, 102, 103] (by decide +kernel) (by decide +kernel)
set_option maxRecDepth 20000 in
theorem gX2_faultOfAll_X2_readNext : GoodIn wsX2_faultOfAll (wsV RX2 38 RX2 yX2_readNext wsX2_readNext) := goodIn_app (goodIn_of _ (by decide +kernel)) ggX2_faultOfAll_X2_readNext
theorem dX2_faultOfAll_0 : decode cX2_faultOfAll 0 = .ok (.aload_n 0, 1) := by decide +kernel
theorem dX2_faultOfAll_1 : decode cX2_faultOfAll 1 = .ok (.invokevirtual 35, 3) := by decide +kernel
theorem dX2_faultOfAll_4 : decode cX2_faultOfAll 4 = .ok (.iconst 0, 1) := by decide +kernel
theorem dX2_faultOfAll_5 : decode cX2_faultOfAll 5 = .ok (.istore_n 1, 1) := by decide +kernel
theorem dX2_faultOfAll_6 : decode cX2_faultOfAll 6 = .ok (.iload_n 1, 1) := by decide +kernel
theorem dX2_faultOfAll_7 : decode cX2_faultOfAll 7 = .ok (.sipush 150, 3) := by decide +kernel
theorem dX2_faultOfAll_10 : decode cX2_faultOfAll 10 = .ok (.if_icmp .ge 16, 3) := by decide +kernel
theorem dX2_faultOfAll_13 : decode cX2_faultOfAll 13 = .ok (.aload_n 0, 1) := by decide +kernel
theorem dX2_faultOfAll_14 : decode cX2_faultOfAll 14 = .ok (.invokevirtual 38, 3) := by decide +kernel
theorem dX2_faultOfAll_17 : decode cX2_faultOfAll 17 = .ok (.ifCond .eq 9, 3) := by decide +kernel
theorem dX2_faultOfAll_20 : decode cX2_faultOfAll 20 = .ok (.iinc 1 1, 3) := by decide +kernel
theorem dX2_faultOfAll_23 : decode cX2_faultOfAll 23 = .ok (.goto (-17), 3) := by decide +kernel
theorem dX2_faultOfAll_26 : decode cX2_faultOfAll 26 = .ok (.aload_n 0, 1) := by decide +kernel
theorem dX2_faultOfAll_27 : decode cX2_faultOfAll 27 = .ok (.getfield 18, 3) := by decide +kernel
theorem dX2_faultOfAll_30 : decode cX2_faultOfAll 30 = .ok (.ireturn, 1) := by decide +kernel
theorem hin_X2_faultOfAll_X2 : ∀ w ∈ wsX20, w ∈ wsX2_faultOfAll := by decide +kernel
theorem lk_X2_faultOfAll_18 : Cond.fieldLink RX2 18 RX2 "fault" "I" ∈ wsX2_faultOfAll := by decide +kernel
theorem t_faultOfAll (hG : GP G) (hE : GE G) (hT : TxS S t) (hR : R32 mu) (hn : 0 ≤ mu t 2 ∧ mu t 2 ≤ 150) (hk : 0 ≤ k ∧ k ≤ 8) : Ct G l yX2_faultOfAll wsX2_faultOfAll 7 0 0 [.ref t] S n (txM mu t c f k N) la (Dt (some (.int (I32 (ftaF mu t k N).2.1))) S n (txT mu t (ftaF mu t k N)) la) := by
  have o2 := hT.1
  unfold ftaF
  generalize eR : ftaG mu t 150 (0, -1, k, N) = R
  refine Ct.ofV (cc := cX2_faultOfAll) (nL := 2) (ret := (some .int)) [some (.ref t), none] hG (by decide) rfl (Nat.le_of_ble_eq_true rfl) rfl ?_
  rintro X rfl rfl C hcl hsl E
  have loop : ∀ (d : Nat) (i : Int) (x : Tx), i + d = 150 → 0 ≤ i → (0 ≤ x.1 ∧ x.1 ≤ mu t 2) → x.2.1 = -1 → (0 ≤ x.2.2.1 ∧ x.2.2.1 ≤ 8) → ftaG mu t d x = R → V X 6 [some (.ref t), some (.int (I32 i))] [] S n (txT mu t x) la 0 0 := by
    intro d
    induction d with
    | zero =>
      intro i x h1 h2 h3 h4 h5 h6
      have h6 : R = x := h6.symm
      subst h6
      refine V_iload_n C dX2_faultOfAll_6 rfl ?_
      refine V_sipush C dX2_faultOfAll_7 (by decide +kernel) ?_
      refine V_icmp_ge C 26 dX2_faultOfAll_10 (by decide) (by omega) (by omega) (fun z => ?_) (fun z => ?_)
      · refine V_aload_n C dX2_faultOfAll_26 rfl ?_
        refine V_getJ C 4 4 rfl dX2_faultOfAll_27 o2 rfl hin_X2_faultOfAll_X2 (by decide) lk_X2_faultOfAll_18 rfl rfl (by first | exact tx_4 | exact tx_3) ?_
        refine V_ireturn C E dX2_faultOfAll_30 (by omega) (by omega) ?_
        exact Dt_rfl
      · exact absurd z (by omega)
    | succ d ih =>
      intro i x h1 h2 h3 h4 h5 h6
      rw [ftaG] at h6
      have b := rnF_b mu t x.2.2.1 x.2.2.2 h3 h5
      unfold txT
      rw [h4]
      refine V_iload_n C dX2_faultOfAll_6 rfl ?_
      refine V_sipush C dX2_faultOfAll_7 (by decide +kernel) ?_
      refine V_icmp_ge C 26 dX2_faultOfAll_10 (by decide) (by omega) (by omega) (fun z => ?_) (fun z => ?_)
      · exact absurd z (by omega)
      · refine V_aload_n C dX2_faultOfAll_13 rfl ?_
        refine V_callVD (nA := 0) C dX2_faultOfAll_14 (t_readNext C.gp hE hT hR hn h3 h5) gX2_faultOfAll_X2_readNext rfl o2 rfl (by decide +kernel) rfl (by decide) (by decide) (Nat.le_of_ble_eq_true rfl) ⟨by omega, by omega⟩ rfl ?_
        generalize rnF mu t x.1 x.2.2.1 x.2.2.2 = Q at b h6
        refine V_if_eq C 26 dX2_faultOfAll_17 (by decide) (by omega) (fun z2 => ?_) (fun z2 => ?_)
        · rw [if_neg (by omega)] at h6
          subst h6
          refine V_aload_n C dX2_faultOfAll_26 rfl ?_
          refine V_getJ C 4 4 rfl dX2_faultOfAll_27 o2 rfl hin_X2_faultOfAll_X2 (by decide) lk_X2_faultOfAll_18 rfl rfl (by first | exact tx_4 | exact tx_3) ?_
          refine V_ireturn C E dX2_faultOfAll_30 (by omega) (by omega) ?_
          exact Dt_rfl
        · rw [if_pos (by omega)] at h6
          refine V_iinc C dX2_faultOfAll_20 rfl rfl (by decide) ?_
          refine V_goto C 6 dX2_faultOfAll_23 (by decide) ?_
          exact ih _ Q.2 (by omega) (by omega) b.1 (b.2.2.2.1 (by omega)).1 b.2.1 h6
  refine V_aload_n C dX2_faultOfAll_0 rfl ?_
  refine V_callVD (nA := 0) C dX2_faultOfAll_1 (t_startReading C.gp hT) gX2_faultOfAll_X2_startReading rfl o2 rfl (by decide +kernel) rfl (by decide) (by decide) (Nat.le_of_ble_eq_true rfl) ⟨by omega, by omega⟩ rfl ?_
  refine V_iconst C dX2_faultOfAll_4 ?_
  refine V_istore_n C dX2_faultOfAll_5 rfl (by decide) ?_
  exact loop 150 0 (0, -1, k, N) (by omega) (by omega) (by omega) rfl hk eR
theorem dX2_command_0 : decode cX2_command 0 = .ok (.aload_n 0, 1) := by decide +kernel
theorem dX2_command_1 : decode cX2_command 1 = .ok (.getfield 45, 3) := by decide +kernel
theorem dX2_command_4 : decode cX2_command 4 = .ok (.areturn, 1) := by decide +kernel
theorem hin_X2_command_X2 : ∀ w ∈ wsX20, w ∈ wsX2_command := by decide +kernel
theorem lk_X2_command_45 : Cond.fieldLink RX2 45 RX2 "command" "LDockTree$Command;" ∈ wsX2_command := by decide +kernel
theorem t_command (hG : GP G) (hT : TxS S t) : Ct G l yX2_command wsX2_command 0 0 0 [.ref t] S n (txM mu t c f k N) la (Dt (some (eRef G k)) S n (txM mu t c f k N) la) := by
  have o2 := hT.1
  refine Ct.ofV (cc := cX2_command) (nL := 1) (ret := (some (.object "DockTree$Command"))) [some (.ref t)] hG (by decide) rfl (Nat.le_of_ble_eq_true rfl) rfl ?_
  rintro X rfl rfl C hcl hsl E
  refine V_aload_n C dX2_command_0 rfl ?_
  refine V_getE C 5 5 rfl dX2_command_1 o2 rfl hin_X2_command_X2 (by decide) lk_X2_command_45 rfl rfl tx_5 ?_
  refine V_areturn C (Or.inl ⟨_, rfl⟩) E (by unfold eRef; split; exact Or.inl rfl; exact Or.inr ⟨_, rfl⟩) dX2_command_4 (by omega) (by omega) ?_
  exact Dt_rfl
set_option maxRecDepth 20000 in
theorem ggX2_number_X8_at : GoodIn wsX2_number wsX8_at := goodIn_r _ [4] (by decide +kernel) (by decide +kernel)
set_option maxRecDepth 20000 in
theorem gX2_number_X8_at_n49 : GoodIn wsX2_number (wsX8_at) := ggX2_number_X8_at
theorem dX2_number_0 : decode cX2_number 0 = .ok (.aload_n 0, 1) := by decide +kernel
theorem dX2_number_1 : decode cX2_number 1 = .ok (.getfield 15, 3) := by decide +kernel
theorem dX2_number_4 : decode cX2_number 4 = .ok (.iload_n 1, 1) := by decide +kernel
theorem dX2_number_5 : decode cX2_number 5 = .ok (.invokestatic 49, 3) := by decide +kernel
theorem dX2_number_8 : decode cX2_number 8 = .ok (.ireturn, 1) := by decide +kernel
theorem hin_X2_number_X2 : ∀ w ∈ wsX20, w ∈ wsX2_number := by decide +kernel
theorem lk_X2_number_15 : Cond.fieldLink RX2 15 RX2 "numbers" "[I" ∈ wsX2_number := by decide +kernel
theorem t_number (hG : GP G) (hT : TxS S t) {i : Int} (hi : 0 ≤ i ∧ i < 5) : Ct G l yX2_number wsX2_number 1 0 0 [.ref t, .int (I32 i)] S n (txM mu t c f k N) la (Dt (some (.int (I32 (N i)))) S n (txM mu t c f k N) la) := by
  have o2 := hT.1
  refine Ct.ofV (cc := cX2_number) (nL := 2) (ret := (some .int)) [some (.ref t), some (.int (I32 i))] hG (by decide) rfl (Nat.le_of_ble_eq_true rfl) rfl ?_
  rintro X rfl rfl C hcl hsl E
  refine V_aload_n C dX2_number_0 rfl ?_
  refine V_getR C 1 dX2_number_1 o2 rfl hin_X2_number_X2 (by decide) lk_X2_number_15 rfl rfl ?_
  refine V_iload_n C dX2_number_4 rfl ?_
  refine V_callSND (nA := 2) (host := "DockTree") C dX2_number_5 (c_atW C.gp hT.2.2 (by decide)) gX2_number_X8_at_n49 (by decide +kernel) (by decide +kernel) (by decide +kernel) rfl (by decide +kernel) rfl (by decide) (by decide) (Nat.le_of_ble_eq_true rfl) ⟨by omega, by omega⟩ rfl ?_
  rw [show gK (txM mu t c f k N) (t + 2) 5 i = N i by
    unfold gK atF txM
    rw [wr_id (by omega), if_pos (by omega), if_neg (by omega), if_pos rfl]]
  refine V_ireturn C E dX2_number_8 (by omega) (by omega) ?_
  exact Dt_rfl
theorem dX2_length_0 : decode cX2_length 0 = .ok (.aload_n 0, 1) := by decide +kernel
theorem dX2_length_1 : decode cX2_length 1 = .ok (.getfield 22, 3) := by decide +kernel
theorem dX2_length_4 : decode cX2_length 4 = .ok (.ireturn, 1) := by decide +kernel
theorem hin_X2_length_X2 : ∀ w ∈ wsX20, w ∈ wsX2_length := by decide +kernel
theorem lk_X2_length_22 : Cond.fieldLink RX2 22 RX2 "length" "I" ∈ wsX2_length := by decide +kernel
theorem t_length (hG : GP G) (hT : TxS S t) : Ct G l yX2_length wsX2_length 0 0 0 [.ref t] S n mu la (Dt (some (.int (I32 (mu t 2)))) S n mu la) := by
  have o2 := hT.1
  refine Ct.ofV (cc := cX2_length) (nL := 1) (ret := (some .int)) [some (.ref t)] hG (by decide) rfl (Nat.le_of_ble_eq_true rfl) rfl ?_
  rintro X rfl rfl C hcl hsl E
  refine V_aload_n C dX2_length_0 rfl ?_
  refine V_getJ C 2 2 rfl dX2_length_1 o2 rfl hin_X2_length_X2 (by decide) lk_X2_length_22 rfl rfl rfl ?_
  refine V_ireturn C E dX2_length_4 (by omega) (by omega) ?_
  exact Dt_rfl
set_option maxRecDepth 20000 in
theorem ggX2_append_X8_put : GoodIn wsX2_append wsX8_put := goodIn_r _ [9] (by decide +kernel) (by decide +kernel)
set_option maxRecDepth 20000 in
theorem gX2_append_X8_put_n25 : GoodIn wsX2_append (wsX8_put) := ggX2_append_X8_put
theorem dX2_append_0 : decode cX2_append 0 = .ok (.aload_n 0, 1) := by decide +kernel
theorem dX2_append_1 : decode cX2_append 1 = .ok (.getfield 9, 3) := by decide +kernel
theorem dX2_append_4 : decode cX2_append 4 = .ok (.aload_n 0, 1) := by decide +kernel
theorem dX2_append_5 : decode cX2_append 5 = .ok (.getfield 22, 3) := by decide +kernel
theorem dX2_append_8 : decode cX2_append 8 = .ok (.iload_n 1, 1) := by decide +kernel
theorem dX2_append_9 : decode cX2_append 9 = .ok (.invokestatic 25, 3) := by decide +kernel
theorem dX2_append_12 : decode cX2_append 12 = .ok (.aload_n 0, 1) := by decide +kernel
theorem dX2_append_13 : decode cX2_append 13 = .ok (.aload_n 0, 1) := by decide +kernel
theorem dX2_append_14 : decode cX2_append 14 = .ok (.getfield 22, 3) := by decide +kernel
theorem dX2_append_17 : decode cX2_append 17 = .ok (.iconst 1, 1) := by decide +kernel
theorem dX2_append_18 : decode cX2_append 18 = .ok (.iadd, 1) := by decide +kernel
theorem dX2_append_19 : decode cX2_append 19 = .ok (.sipush 150, 3) := by decide +kernel
theorem dX2_append_22 : decode cX2_append 22 = .ok (.invokestatic 29, 3) := by decide +kernel
theorem dX2_append_25 : decode cX2_append 25 = .ok (.putfield 22, 3) := by decide +kernel
theorem dX2_append_28 : decode cX2_append 28 = .ok (.return_, 1) := by decide +kernel
theorem hin_X2_append_X2 : ∀ w ∈ wsX20, w ∈ wsX2_append := by decide +kernel
theorem lk_X2_append_9 : Cond.fieldLink RX2 9 RX2 "bytes" "[I" ∈ wsX2_append := by decide +kernel
theorem lk_X2_append_22 : Cond.fieldLink RX2 22 RX2 "length" "I" ∈ wsX2_append := by decide +kernel
theorem t_append (hG : GP G) (hT : TxS S t) (hn : 0 ≤ mu t 2 ∧ mu t 2 < 150) {v : Int} (hv : 0 ≤ v ∧ v ≤ 127) : Ct G l yX2_append wsX2_append 1 0 0 [.ref t, .int (I32 v)] S n mu la (Dt none S n (up (up mu (t + 1) (mu t 2) v) t 2 (mu t 2 + 1)) la) := by
  have o2 := hT.1
  refine Ct.ofV (cc := cX2_append) (nL := 2) (ret := none) [some (.ref t), some (.int (I32 v))] hG (by decide) rfl (Nat.le_of_ble_eq_true rfl) rfl ?_
  rintro X rfl rfl C hcl hsl E
  refine V_aload_n C dX2_append_0 rfl ?_
  refine V_getR C 0 dX2_append_1 o2 rfl hin_X2_append_X2 (by decide) lk_X2_append_9 rfl rfl ?_
  refine V_aload_n C dX2_append_4 rfl ?_
  refine V_getJ C 2 2 rfl dX2_append_5 o2 rfl hin_X2_append_X2 (by decide) lk_X2_append_22 rfl rfl rfl ?_
  refine V_iload_n C dX2_append_8 rfl ?_
  refine V_callSND (nA := 3) (host := "DockTree") C dX2_append_9 (c_putW C.gp hT.2.1 (by decide)) gX2_append_X8_put_n25 (by decide +kernel) (by decide +kernel) (by decide +kernel) rfl (by decide +kernel) rfl (by decide) (by decide) (Nat.le_of_ble_eq_true rfl) ⟨by omega, by omega⟩ rfl ?_
  rw [show sK mu (t + 1) 150 (mu t 2) v = up mu (t + 1) (mu t 2) v by
    unfold sK puF
    rw [wr_id (by omega), wr_id (by omega), if_pos (by omega)]]
  refine V_aload_n C dX2_append_12 rfl ?_
  refine V_aload_n C dX2_append_13 rfl ?_
  refine V_getJ C 2 2 rfl dX2_append_14 o2 rfl hin_X2_append_X2 (by decide) lk_X2_append_22 rfl rfl (up_a _ _ _ _ (by omega)) ?_
  refine V_iconst C dX2_append_17 ?_
  refine V_iadd C dX2_append_18 ?_
  refine V_sipush C dX2_append_19 (by decide +kernel) ?_
  refine V_mmin C dX2_append_22 (by decide +kernel) (by decide +kernel) (by decide +kernel) (by decide +kernel) (by decide) (Nat.le_of_ble_eq_true rfl) ⟨by omega, by omega⟩ (by omega) (by omega) ?_
  rw [show min (mu t 2 + 1) 150 = mu t 2 + 1 by omega]
  refine V_putJ C 2 2 rfl dX2_append_25 o2 rfl hin_X2_append_X2 tyX2 tyX2_ok nmX2 (by decide) lk_X2_append_22 rfl rfl (by decide +kernel) rfl rfl ?_
  refine V_return C E dX2_append_28 (by omega) (by omega) ?_
  exact Dt_rfl
theorem dX2_empty_0 : decode cX2_empty 0 = .ok (.aload_n 0, 1) := by decide +kernel
theorem dX2_empty_1 : decode cX2_empty 1 = .ok (.iconst 0, 1) := by decide +kernel
theorem dX2_empty_2 : decode cX2_empty 2 = .ok (.putfield 22, 3) := by decide +kernel
theorem dX2_empty_5 : decode cX2_empty 5 = .ok (.return_, 1) := by decide +kernel
theorem hin_X2_empty_X2 : ∀ w ∈ wsX20, w ∈ wsX2_empty := by decide +kernel
theorem lk_X2_empty_22 : Cond.fieldLink RX2 22 RX2 "length" "I" ∈ wsX2_empty := by decide +kernel
theorem t_empty (hG : GP G) (hT : TxS S t) : Ct G l yX2_empty wsX2_empty 0 0 0 [.ref t] S n mu la (Dt none S n (up mu t 2 0) la) := by
  have o2 := hT.1
  refine Ct.ofV (cc := cX2_empty) (nL := 1) (ret := none) [some (.ref t)] hG (by decide) rfl (Nat.le_of_ble_eq_true rfl) rfl ?_
  rintro X rfl rfl C hcl hsl E
  refine V_aload_n C dX2_empty_0 rfl ?_
  refine V_iconst C dX2_empty_1 ?_
  refine V_putJ C 2 2 rfl dX2_empty_2 o2 rfl hin_X2_empty_X2 tyX2 tyX2_ok nmX2 (by decide) lk_X2_empty_22 rfl rfl (by decide +kernel) rfl rfl ?_
  refine V_return C E dX2_empty_5 (by omega) (by omega) ?_
  exact Dt_rfl
end TX
