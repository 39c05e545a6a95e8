/-! DockTree: the calls that change something, each that returns and each that throws -/
section D0
variable {G : Gx} {l : Launch} {S : Sh} {n : Nat} {mu : Mem} {la : Lam} {b : Nat} {L : Mem} {N : Int}
-- X4_memberAt
theorem cW_memberAt (hG : GP G) (hL : LayS S b) (hB : Bd N L) (hN : 1 ≤ N ∧ N ≤ 1073741824) {h i : Int} (hh : -2147483648 ≤ h ∧ h ≤ 2147483647) (hi : -2147483648 ≤ i ∧ i ≤ 2147483647) : Ct G l yX4_memberAt wsX4_memberAt 1 0 0 [.ref b, .int (I32 h), .int (I32 i)] S n (putL mu b L) la (Dt (some (.int (I32 (mbrF L h i)))) S n (putL mu b L) la) := by
  have o4 := hL.1
  refine Ct.ofV (cc := cX4_memberAt) (nL := 4) (ret := (some .int)) [some (.ref b), some (.int (I32 h)), some (.int (I32 i)), none] hG (by decide) rfl (Nat.le_of_ble_eq_true rfl) rfl ?_
  rintro X rfl rfl C hcl hsl E
  have loop : ∀ (m : Nat) (j : Int), 0 ≤ j → j + m = 49 → mbrF L h i = mbrG L h i m → V X 2 [some (.ref b), some (.int (I32 h)), some (.int (I32 i)), some (.int (I32 j))] [] S n (putL mu b L) la 0 0 := by
    intro m
    induction m with
    | zero =>
      intro j h0 hj hr
      refine V_iload_n C dX4_memberAt_2 rfl ?_
      refine V_bipush C dX4_memberAt_3 (by decide +kernel) ?_
      refine V_icmp_ge C 40 dX4_memberAt_5 (by decide) (by omega) (by omega) (fun c => ?_) (fun c => ?_)
      · refine V_iconst C dX4_memberAt_40 ?_
        refine V_ireturn C E dX4_memberAt_41 (by omega) (by omega) ?_
        rw [hr]; exact Dt_rfl
      · exact absurd c (by omega)
    | succ m ih =>
      intro j h0 hj hr
      have e : j = 48 - m := by omega
      have e0 : aL L 0 j = L 0 j := aL_in (by show 0 ≤ j ∧ j < ((49 : Nat) : Int); omega)
      have e1 : aL L 1 j = L 1 j := aL_in (by show 0 ≤ j ∧ j < ((49 : Nat) : Int); omega)
      have b0 := hB 0 j
      have b1 := hB 1 j
      refine V_iload_n C dX4_memberAt_2 rfl ?_
      refine V_bipush C dX4_memberAt_3 (by decide +kernel) ?_
      refine V_icmp_ge C 40 dX4_memberAt_5 (by decide) (by omega) (by omega) (fun c => ?_) (fun c => ?_)
      · exact absurd c (by omega)
      · refine V_aload_n C dX4_memberAt_8 rfl ?_
        refine V_getR C 0 dX4_memberAt_9 o4 rfl hin_X4_memberAt_X4 (by decide) lk_X4_memberAt_9 rfl rfl ?_
        refine V_iload_n C dX4_memberAt_12 rfl ?_
        refine V_callSND (nA := 2) (host := "DockTree") C dX4_memberAt_13 (c_aL C.gp hL 0 _ (by decide) rfl (by omega)) gX4_memberAt_X8_at_n46 (by decide +kernel) (by decide +kernel) (by decide +kernel) rfl (by decide +kernel) rfl (by decide) (by decide) (Nat.le_of_ble_eq_true rfl) ⟨by omega, by omega⟩ rfl ?_
        rw [e0]
        refine V_iload_n C dX4_memberAt_16 rfl ?_
        refine V_icmp_ne C 34 dX4_memberAt_17 (by decide) (by omega) (by omega) (fun c0 => ?_) (fun c0 => ?_)
        · refine V_iinc C dX4_memberAt_34 rfl rfl (by decide) ?_
          refine V_goto C 2 dX4_memberAt_37 (by decide) ?_
          exact ih (j + 1) (by omega) (by omega) (by rw [hr, mbrG, if_neg (by rw [← e]; exact fun q => c0 q.1)])
        · refine V_aload_n C dX4_memberAt_20 rfl ?_
          refine V_getR C 1 dX4_memberAt_21 o4 rfl hin_X4_memberAt_X4 (by decide) lk_X4_memberAt_15 rfl rfl ?_
          refine V_iload_n C dX4_memberAt_24 rfl ?_
          refine V_callSND (nA := 2) (host := "DockTree") C dX4_memberAt_25 (c_aL C.gp hL 1 _ (by decide) rfl (by omega)) gX4_memberAt_X8_at_n46 (by decide +kernel) (by decide +kernel) (by decide +kernel) rfl (by decide +kernel) rfl (by decide) (by decide) (Nat.le_of_ble_eq_true rfl) ⟨by omega, by omega⟩ rfl ?_
          rw [e1]
          refine V_iload_n C dX4_memberAt_28 rfl ?_
          refine V_icmp_ne C 34 dX4_memberAt_29 (by decide) (by omega) (by omega) (fun c1 => ?_) (fun c1 => ?_)
          · refine V_iinc C dX4_memberAt_34 rfl rfl (by decide) ?_
            refine V_goto C 2 dX4_memberAt_37 (by decide) ?_
            exact ih (j + 1) (by omega) (by omega) (by rw [hr, mbrG, if_neg (by rw [← e]; exact fun q => c1 q.2)])
          · refine V_iload_n C dX4_memberAt_32 rfl ?_
            refine V_ireturn C E dX4_memberAt_33 (by omega) (by omega) ?_
            rw [hr, mbrG, if_pos (by rw [← e]; exact ⟨c0, c1⟩), ← e]; exact Dt_rfl
  refine V_iconst C dX4_memberAt_0 ?_
  refine V_istore_n C dX4_memberAt_1 rfl (by decide) ?_
  exact loop 49 0 (by omega) (by omega) rfl
theorem wW_memberAt (hG : GP G) (hL : LayS S b) (hB : Bd 16000000 (lay mu b)) {x i : Int} (hx : -2147483648 ≤ x ∧ x ≤ 2147483647) (hi : -2147483648 ≤ i ∧ i ≤ 2147483647) : Ct G l yX4_memberAt wsX4_memberAt 1 0 0 [.ref b, .int (I32 x), .int (I32 i)] S n mu la (Dt (some (.int (I32 (mbrF (lay mu b) x i)))) S n mu la) := by
  have h := cW_memberAt (l := l) (n := n) (mu := mu) (la := la) hG hL hB (by omega) hx hi
  rw [putL_lay] at h; exact h
end D0

section D3
variable {G : Gx} {l : Launch} {S : Sh} {n : Nat} {mu : Mem} {la : Lam} {a c h t p b q : Nat}
theorem PlAt_memberOf (hG : GP G) (hP : PlanS S p) {P : Mem} (hA : pl mu p = P) {x i : Int} (hi : -2147483648 ≤ i ∧ i ≤ 2147483647) : Ct G l yX5_memberOf wsX5_memberOf 1 0 0 [.ref p, .int (I32 x), .int (I32 i)] S n mu la (Dt (some (.int (I32 (mo P x i)))) S n mu la) := by subst hA; exact w_memberOf hG hP hi
theorem PlAt_sizeOf (hG : GP G) (hP : PlanS S p) {P : Mem} (hA : pl mu p = P) {x i : Int} : Ct G l yX5_sizeOf wsX5_sizeOf 1 0 0 [.ref p, .int (I32 x), .int (I32 i)] S n mu la (Dt (some (.int (I32 (gK P 6 98 (2 * x + i))))) S n mu la) := by subst hA; exact w_sizeOf hG hP
def mdS (L P : Mem) (sp ax : Int) : Nat → Mem
  | 0 => L
  | j + 1 => sL (mdS L P sp ax j) 3 (mo P sp j) (gK P 6 98 (2 * mo P sp j + ax))
theorem mdS_ne (L P : Mem) (sp ax : Int) {k : Nat} (hk : k ≠ 3) (i : Int) : ∀ j, mdS L P sp ax j k i = L k i
  | 0 => rfl
  | j + 1 => by rw [mdS, sL_ne hk, mdS_ne L P sp ax hk i j]
theorem gL_mdS (L P : Mem) (sp ax : Int) {k : Nat} (hk : k ≠ 3) (i : Int) (j : Nat) : gL (mdS L P sp ax j) k i = gL L k i := by
  unfold gL gK atF
  rw [mdS_ne L P sp ax hk]
def mdF (L P : Mem) (g ax d : Int) : Mem :=
  sL (sL (mdS L P (gL L 0 g) ax (gL L 2 (gL L 0 g)).toNat) 3 g (gK P 6 98 (2 * g + ax) + d)) 3 (mo P (gL L 0 g) (gL L 1 g + 1)) (gK P 6 98 (2 * mo P (gL L 0 g) (gL L 1 g + 1) + ax) - d)
def cb1 (mu : Mem) (c b : Nat) : Mem := cp8 mu (c + 2) b 8
def cb2 (mu : Mem) (c b : Nat) (x y z : Int) : Mem := putL (cb1 mu c b) b (dkF (lay (cb1 mu c b) b) x y z)
def cb3 (mu : Mem) (c b q : Nat) (x y z : Int) : Mem := wkR (cb2 mu c b x y z) q b (c + 1) (cb2 mu c b x y z c 0) (cb2 mu c b x y z c 1)
def cbA (mu : Mem) (c b q : Nat) (x y z : Int) : Int :=
  gK (pl (cb3 mu c b q x y z) q) 6 98 (2 * gL (lay (cb3 mu c b q x y z) b) 0 x + 0) * rbF (pl (cb3 mu c b q x y z) q) (gL (lay (cb3 mu c b q x y z) b) 0 x)
end D3
