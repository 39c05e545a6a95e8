/-! THE REFERENCE: checksum -/
def mxL (T Z : Mem) (p : Int) : Nat → Int → Int64 → Int64
  | 0, _, h => h
  | d + 1, v, h => if saF T p v 0 = -1 then h else mxL T Z p d (v + 1) (mxG (fun w => stF T Z p v w) 8 0 h)
def mxQ (mu : Mem) (r : Nat) (T Z : Mem) (p : Int) (h : Int64) : Int64 := mx (mx (mxG (fun w => pvF mu r T Z p w) 12 0 h) (ttF T (mu (r + 1) 2) p 0)) (ttF T (mu (r + 1) 2) p 1)
def mxA (mu : Mem) (r : Nat) (T Z : Mem) : Nat → Int → Int64 → Int64
  | 0, _, h => h
  | d + 1, p, h => mxA mu r T Z d (p + 1) (mxQ mu r T Z p h)
def mxB (T Z : Mem) : Nat → Int → Int64 → Int64
  | 0, _, h => h
  | d + 1, p, h => mxB T Z d (p + 1) (mxL T Z p 40 0 h)
def diR (mu : Mem) (r : Nat) (T : Mem) (q : Int) (Z : Mem) : Int64 :=
  mxG (fun k => mu (r + 1) (355 + 321 * k)) 4 0 (mxG (fun k => fvG T k 32) (ctT T 4).toNat 0 (mxG (fun k => gvT T k) (ctT T 1).toNat 0
    (mxB T Z (mu (r + 1) 2).toNat 0 (mxA mu r T Z (mu (r + 1) 2).toNat 0 (mxG (fun k => wvF mu r T q Z k) 12 0 (mx (mx 43151 (mu r 4)) (mu r 6)))))))
def mu0 (mu : Mem) (r : Nat) : Mem := up mu r 7 0
section MG
variable {G : Gx} {l : Launch} {S : Sh} {n : Nat} {mu T Z : Mem} {la : Lam} {r : Nat}
theorem dX9_mix_0 : decode cX9_mix 0 = .ok (.aload_n 0, 1) := by decide +kernel
theorem dX9_mix_1 : decode cX9_mix 1 = .ok (.ldc2_w 338, 3) := by decide +kernel
theorem dX9_mix_4 : decode cX9_mix 4 = .ok (.aload_n 0, 1) := by decide +kernel
theorem dX9_mix_5 : decode cX9_mix 5 = .ok (.getfield 340, 3) := by decide +kernel
theorem dX9_mix_8 : decode cX9_mix 8 = .ok (.lmul, 1) := by decide +kernel
theorem dX9_mix_9 : decode cX9_mix 9 = .ok (.iload_n 1, 1) := by decide +kernel
theorem dX9_mix_10 : decode cX9_mix 10 = .ok (.i2l, 1) := by decide +kernel
theorem dX9_mix_11 : decode cX9_mix 11 = .ok (.ladd, 1) := by decide +kernel
theorem dX9_mix_12 : decode cX9_mix 12 = .ok (.putfield 340, 3) := by decide +kernel
theorem dX9_mix_15 : decode cX9_mix 15 = .ok (.return_, 1) := by decide +kernel
theorem hin_X9_mix_X9 : ∀ w ∈ wsX90, w ∈ wsX9_mix := by decide +kernel
theorem lk_X9_mix_340 : Cond.fieldLink RX9 340 RX9 "h" "J" ∈ wsX9_mix := by decide +kernel
theorem u_mix (hG : GP G) (hM : MoS S r) {g : Int64} {v : Int} : Ct G l yX9_mix wsX9_mix 0 0 0 [.ref r, .int (I32 v)] S n mu (upl la r 23 g) (Dt none S n mu (upl la r 23 (mx g v))) := by
  have o9 := hM.1
  refine Ct.ofV (cc := cX9_mix) (nL := 2) (ret := none) [some (.ref r), some (.int (I32 v))] hG (by decide) rfl (Nat.le_of_ble_eq_true rfl) rfl ?_
  rintro X rfl rfl C hcl hsl E
  refine V_aload_n C dX9_mix_0 rfl ?_
  refine V_ldc2 C (v := 31) dX9_mix_1 (by decide +kernel) ?_
  refine V_aload_n C dX9_mix_4 rfl ?_
  refine V_getL C 23 dX9_mix_5 o9 rfl hin_X9_mix_X9 (by decide) lk_X9_mix_340 rfl rfl ?_
  rw [upl_s]
  refine V_lmul C dX9_mix_8 ?_
  refine V_iload_n C dX9_mix_9 rfl ?_
  refine V_i2l C dX9_mix_10 ?_
  refine V_ladd C dX9_mix_11 ?_
  refine V_putL C 23 dX9_mix_12 o9 rfl hin_X9_mix_X9 tyX9 tyX9_ok nmX9 (by decide) lk_X9_mix_340 rfl rfl (by decide +kernel) rfl ?_
  rw [upl_upl]
  refine V_return C E dX9_mix_15 (by omega) (by omega) ?_
  exact Dt_rfl
set_option maxRecDepth 20000 in
theorem ggX9_mixPane_X9_paneTold : GoodIn wsX9_mixPane wsX9_paneTold := goodIn_r _ [5, 6, 7, 8, 9, 4, 10, 11, 12, 13, 14, 15, 16, 17, 18, 19, 20, 21, 22, 23, 24, 25, 26, 27, 28, 29, 30, 31, 32, 33, 34, 35, 36, 37, 38, 39, 40, 41, 42, 57, 58, 59, 60, 61, 62, 63, 64, 65, 66, 67, 68, 69, 70, 71, 72, 73, 74, 75, 76, 77, 78, 79, 80] (by decide +kernel) (by decide +kernel)
set_option maxRecDepth 20000 in
theorem gX9_mixPane_X9_paneTold : GoodIn wsX9_mixPane (wsV RX9 243 RX9 yX9_paneTold wsX9_paneTold) := goodIn_app (goodIn_of _ (by decide +kernel)) ggX9_mixPane_X9_paneTold
set_option maxRecDepth 20000 in
theorem ggX9_mixPane_X9_mix : GoodIn wsX9_mixPane wsX9_mix := goodIn_r _ [46, 47, 48, 57, 58, 59, 60, 61, 62, 63, 64, 65, 66, 67, 68, 69, 70, 71, 72, 73, 74, 75, 76, 77, 78, 79, 80] (by decide +kernel) (by decide +kernel)
set_option maxRecDepth 20000 in
theorem gX9_mixPane_X9_mix : GoodIn wsX9_mixPane (wsV RX9 343 RX9 yX9_mix wsX9_mix) := goodIn_app (goodIn_of _ (by decide +kernel)) ggX9_mixPane_X9_mix
set_option maxRecDepth 20000 in
theorem ggX9_mixPane_X9_tabTold : GoodIn wsX9_mixPane wsX9_tabTold := goodIn_r _ [52, 7, 8, 9, 4, 10, 6, 53, 54, 55, 56, 19, 20, 21, 22, 57, 58, 59, 60, 61, 62, 63, 64, 65, 66, 67, 68, 69, 70, 71, 72, 73, 74, 75, 76, 77, 78, 79, 80] (by decide +kernel) (by decide +kernel)
set_option maxRecDepth 20000 in
theorem gX9_mixPane_X9_tabTold : GoodIn wsX9_mixPane (wsV RX9 256 RX9 yX9_tabTold wsX9_tabTold) := goodIn_app (goodIn_of _ (by decide +kernel)) ggX9_mixPane_X9_tabTold
theorem dX9_mixPane_0 : decode cX9_mixPane 0 = .ok (.iconst 0, 1) := by decide +kernel
theorem dX9_mixPane_1 : decode cX9_mixPane 1 = .ok (.istore_n 2, 1) := by decide +kernel
theorem dX9_mixPane_2 : decode cX9_mixPane 2 = .ok (.iload_n 2, 1) := by decide +kernel
theorem dX9_mixPane_3 : decode cX9_mixPane 3 = .ok (.bipush 12, 2) := by decide +kernel
theorem dX9_mixPane_5 : decode cX9_mixPane 5 = .ok (.if_icmp .ge 19, 3) := by decide +kernel
theorem dX9_mixPane_8 : decode cX9_mixPane 8 = .ok (.aload_n 0, 1) := by decide +kernel
theorem dX9_mixPane_9 : decode cX9_mixPane 9 = .ok (.aload_n 0, 1) := by decide +kernel
theorem dX9_mixPane_10 : decode cX9_mixPane 10 = .ok (.iload_n 1, 1) := by decide +kernel
theorem dX9_mixPane_11 : decode cX9_mixPane 11 = .ok (.iload_n 2, 1) := by decide +kernel
theorem dX9_mixPane_12 : decode cX9_mixPane 12 = .ok (.invokevirtual 243, 3) := by decide +kernel
theorem dX9_mixPane_15 : decode cX9_mixPane 15 = .ok (.invokevirtual 343, 3) := by decide +kernel
theorem dX9_mixPane_18 : decode cX9_mixPane 18 = .ok (.iinc 2 1, 3) := by decide +kernel
theorem dX9_mixPane_21 : decode cX9_mixPane 21 = .ok (.goto (-19), 3) := by decide +kernel
theorem dX9_mixPane_24 : decode cX9_mixPane 24 = .ok (.aload_n 0, 1) := by decide +kernel
theorem dX9_mixPane_25 : decode cX9_mixPane 25 = .ok (.aload_n 0, 1) := by decide +kernel
theorem dX9_mixPane_26 : decode cX9_mixPane 26 = .ok (.iload_n 1, 1) := by decide +kernel
theorem dX9_mixPane_27 : decode cX9_mixPane 27 = .ok (.iconst 0, 1) := by decide +kernel
theorem dX9_mixPane_28 : decode cX9_mixPane 28 = .ok (.invokevirtual 256, 3) := by decide +kernel
theorem dX9_mixPane_31 : decode cX9_mixPane 31 = .ok (.invokevirtual 343, 3) := by decide +kernel
theorem dX9_mixPane_34 : decode cX9_mixPane 34 = .ok (.aload_n 0, 1) := by decide +kernel
theorem dX9_mixPane_35 : decode cX9_mixPane 35 = .ok (.aload_n 0, 1) := by decide +kernel
theorem dX9_mixPane_36 : decode cX9_mixPane 36 = .ok (.iload_n 1, 1) := by decide +kernel
theorem dX9_mixPane_37 : decode cX9_mixPane 37 = .ok (.iconst 1, 1) := by decide +kernel
theorem dX9_mixPane_38 : decode cX9_mixPane 38 = .ok (.invokevirtual 256, 3) := by decide +kernel
theorem dX9_mixPane_41 : decode cX9_mixPane 41 = .ok (.invokevirtual 343, 3) := by decide +kernel
theorem dX9_mixPane_44 : decode cX9_mixPane 44 = .ok (.return_, 1) := by decide +kernel
theorem u_mixPane (hG : GP G) (hM : MoS S r) (hR : R32Z Z) {N : Int} (hB : TB N T) (hN : N ≤ 1073740000) (hP : 0 ≤ mu (r + 1) 2 ∧ mu (r + 1) 2 ≤ 16) {q x : Int} {g : Int64} (hx : 0 ≤ x ∧ x < 16) (he : T 9 x ≠ -1 → abE T 40 (T 1 (T 9 x))) : Ct G l yX9_mixPane wsX9_mixPane 3 0 0 [.ref r, .int (I32 x)] S n (lyM mu r T q Z) (upl la r 23 g) (Dt none S n (lyM mu r T q Z) (upl la r 23 (mxQ mu r T Z x g))) := by
  have o9 := hM.1
  have hPz : 0 ≤ zM mu r q Z (r + 1) 2 ∧ zM mu r q Z (r + 1) 2 ≤ 16 := by rw [zM_b]; exact hP
  unfold mxQ
  refine Ct.ofV (cc := cX9_mixPane) (nL := 3) (ret := none) [some (.ref r), some (.int (I32 x)), none] hG (by decide) rfl (Nat.le_of_ble_eq_true rfl) rfl ?_
  rintro X rfl rfl C hcl hsl E
  have t0 := m_tabTold (l := xL X) (n := n) (la := upl la r 23 (mxG (fun w => pvF mu r T Z x w) 12 0 g)) (mu := zM mu r q Z) (T := T) C.gp hM hB (by omega) hPz hx (i := 0) (by omega)
  have t1 := m_tabTold (l := xL X) (n := n) (la := upl la r 23 (mx (mxG (fun w => pvF mu r T Z x w) 12 0 g) (ttF T (mu (r + 1) 2) x 0))) (mu := zM mu r q Z) (T := T) C.gp hM hB (by omega) hPz hx (i := 1) (by omega)
  rw [zM_b] at t0 t1
  have loop : ∀ (d : Nat) (w : Int) (g9 : Int64), w + d = 12 → 0 ≤ w → mxG (fun w => pvF mu r T Z x w) d w g9 = mxG (fun w => pvF mu r T Z x w) 12 0 g → V X 2 [some (.ref r), some (.int (I32 x)), some (.int (I32 w))] [] S n (lyM mu r T q Z) (upl la r 23 g9) 0 0 := by
    intro d
    induction d with
    | zero =>
      intro w g9 h1 h2 h3
      rw [mxG] at h3
      rw [h3]
      refine V_iload_n C dX9_mixPane_2 rfl ?_
      refine V_bipush C dX9_mixPane_3 (by decide +kernel) ?_
      refine V_icmp_ge C 24 dX9_mixPane_5 (by decide) (by omega) (by omega) (fun z => ?_) (fun z => ?_)
      · refine V_aload_n C dX9_mixPane_24 rfl ?_
        refine V_aload_n C dX9_mixPane_25 rfl ?_
        refine V_iload_n C dX9_mixPane_26 rfl ?_
        refine V_iconst C dX9_mixPane_27 ?_
        refine V_callVD (nA := 2) C dX9_mixPane_28 t0 gX9_mixPane_X9_tabTold rfl o9 rfl (by decide +kernel) rfl (by decide) (by decide) (Nat.le_of_ble_eq_true rfl) ⟨by omega, by omega⟩ rfl ?_
        refine V_callVD (nA := 1) C dX9_mixPane_31 (u_mix C.gp hM) gX9_mixPane_X9_mix rfl o9 rfl (by decide +kernel) rfl (by decide) (by decide) (Nat.le_of_ble_eq_true rfl) ⟨by omega, by omega⟩ rfl ?_
        refine V_aload_n C dX9_mixPane_34 rfl ?_
        refine V_aload_n C dX9_mixPane_35 rfl ?_
        refine V_iload_n C dX9_mixPane_36 rfl ?_
        refine V_iconst C dX9_mixPane_37 ?_
        refine V_callVD (nA := 2) C dX9_mixPane_38 t1 gX9_mixPane_X9_tabTold rfl o9 rfl (by decide +kernel) rfl (by decide) (by decide) (Nat.le_of_ble_eq_true rfl) ⟨by omega, by omega⟩ rfl ?_
        refine V_callVD (nA := 1) C dX9_mixPane_41 (u_mix C.gp hM) gX9_mixPane_X9_mix rfl o9 rfl (by decide +kernel) rfl (by decide) (by decide) (Nat.le_of_ble_eq_true rfl) ⟨by omega, by omega⟩ rfl ?_
        refine V_return C E dX9_mixPane_44 (by omega) (by omega) ?_
        exact Dt_rfl
      · exact absurd z (by omega)
    | succ d ih =>
      intro w g9 h1 h2 h3
      rw [mxG] at h3
      refine V_iload_n C dX9_mixPane_2 rfl ?_
      refine V_bipush C dX9_mixPane_3 (by decide +kernel) ?_
      refine V_icmp_ge C 24 dX9_mixPane_5 (by decide) (by omega) (by omega) (fun z => ?_) (fun z => ?_)
      · exact absurd z (by omega)
      · refine V_aload_n C dX9_mixPane_8 rfl ?_
        refine V_aload_n C dX9_mixPane_9 rfl ?_
        refine V_iload_n C dX9_mixPane_10 rfl ?_
        refine V_iload_n C dX9_mixPane_11 rfl ?_
        refine V_callVD (nA := 2) C dX9_mixPane_12 (m_paneTold C.gp hM hR hB (by omega) hP hx (by omega) he) gX9_mixPane_X9_paneTold rfl o9 rfl (by decide +kernel) rfl (by decide) (by decide) (Nat.le_of_ble_eq_true rfl) ⟨by omega, by omega⟩ rfl ?_
        refine V_callVD (nA := 1) C dX9_mixPane_15 (u_mix C.gp hM) gX9_mixPane_X9_mix rfl o9 rfl (by decide +kernel) rfl (by decide) (by decide) (Nat.le_of_ble_eq_true rfl) ⟨by omega, by omega⟩ rfl ?_
        refine V_iinc C dX9_mixPane_18 rfl rfl (by decide) ?_
        refine V_goto C 2 dX9_mixPane_21 (by decide) ?_
        exact ih (w + 1) _ (by omega) (by omega) h3
  refine V_iconst C dX9_mixPane_0 ?_
  refine V_istore_n C dX9_mixPane_1 rfl (by decide) ?_
  exact loop 12 0 g (by omega) (by omega) rfl
set_option maxRecDepth 20000 in
theorem ggX9_digest_X9_laysAll : GoodIn wsX9_digest wsX9_laysAll := goodIn_r _ [11, 6, 12, 13, 14, 10, 15, 16, 17, 18, 19, 20, 21, 22, 23, 24, 25, 26, 27, 28, 29, 30, 31, 32, 33, 34, 35, 36, 37, 38, 39, 40, 41, 42, 43, 44, 45, 46, 47, 48, 49, 50, 51, 52, 53, 54, 55, 56, 57, 58, 59, 60, 61, 62, 63, 64, 65, 66, 67, 68, 69, 70, 71, 72, 73, 74, 75, 76, 77, 78, 79, 80, 81, 171, 172, 173, 174, 175, 176, 177, 178, 179, 180, 181, 182, 183, 184, 185, 186, 187, 188, 189, 190, 191, 192, 193, 194] (by decide +kernel) (by decide +kernel)
set_option maxRecDepth 20000 in
theorem gX9_digest_X9_laysAll : GoodIn wsX9_digest (wsV RX9 219 RX9 yX9_laysAll wsX9_laysAll) := goodIn_app (goodIn_of _ (by decide +kernel)) ggX9_digest_X9_laysAll
set_option maxRecDepth 20000 in
theorem ggX9_digest_X9_mix : GoodIn wsX9_digest wsX9_mix := goodIn_r _ [85, 86, 3, 171, 172, 173, 174, 175, 176, 177, 178, 179, 180, 181, 182, 183, 184, 185, 186, 187, 188, 189, 190, 191, 192, 193, 194] (by decide +kernel) (by decide +kernel)
set_option maxRecDepth 20000 in
theorem gX9_digest_X9_mix : GoodIn wsX9_digest (wsV RX9 343 RX9 yX9_mix wsX9_mix) := goodIn_app (goodIn_of _ (by decide +kernel)) ggX9_digest_X9_mix
set_option maxRecDepth 20000 in
theorem ggX9_digest_X9_wholeTold : GoodIn wsX9_digest wsX9_wholeTold := goodIn_r _ [90, 6, 16, 55, 17, 56, 91, 92, 93, 10, 94, 95, 96, 97, 98, 61, 62, 63, 64, 32, 33, 34, 35, 99, 100, 101, 102, 103, 104, 105, 106, 22, 107, 108, 109, 110, 21, 20, 39, 40, 41, 42, 43, 44, 45, 46, 36, 37, 38, 171, 172, 173, 174, 175, 176, 177, 178, 179, 180, 181, 182, 183, 184, 185, 186, 187, 188, 189, 190, 191, 192, 193, 194] (by decide +kernel) (by decide +kernel)
set_option maxRecDepth 20000 in
theorem gX9_digest_X9_wholeTold : GoodIn wsX9_digest (wsV RX9 280 RX9 yX9_wholeTold wsX9_wholeTold) := goodIn_app (goodIn_of _ (by decide +kernel)) ggX9_digest_X9_wholeTold
set_option maxRecDepth 20000 in
theorem ggX9_digest_X9_mixPane : GoodIn wsX9_digest wsX9_mixPane := goodIn_r _ [114, 115, 116, 117, 10, 118, 6, 61, 62, 63, 64, 95, 96, 97, 98, 32, 33, 34, 35, 119, 120, 121, 122, 123, 124, 125, 126, 127, 128, 129, 130, 131, 132, 133, 134, 18, 19, 20, 135, 136, 137, 138, 21, 82, 83, 84, 85, 86, 3, 139, 140, 141, 142, 143, 144, 145, 146, 171, 172, 173, 174, 175, 176, 177, 178, 179, 180, 181, 182, 183, 184, 185, 186, 187, 188, 189, 190, 191, 192, 193, 194] (by decide +kernel) (by decide +kernel)
set_option maxRecDepth 20000 in
theorem gX9_digest_X9_mixPane : GoodIn wsX9_digest (wsV RX9 348 RX9 yX9_mixPane wsX9_mixPane) := goodIn_app (goodIn_of _ (by decide +kernel)) ggX9_digest_X9_mixPane
set_option maxRecDepth 20000 in
theorem ggX9_digest_X9_splitAt : GoodIn wsX9_digest wsX9_splitAt := goodIn_r _ [150, 95, 96, 97, 10, 98, 61, 62, 63, 64, 6, 32, 33, 34, 35, 171, 172, 173, 174, 175, 176, 177, 178, 179, 180, 181, 182, 183, 184, 185, 186, 187, 188, 189, 190, 191, 192, 193, 194] (by decide +kernel) (by decide +kernel)
set_option maxRecDepth 20000 in
theorem gX9_digest_X9_splitAt : GoodIn wsX9_digest (wsV RX9 246 RX9 yX9_splitAt wsX9_splitAt) := goodIn_app (goodIn_of _ (by decide +kernel)) ggX9_digest_X9_splitAt
set_option maxRecDepth 20000 in
theorem ggX9_digest_X9_splitTold : GoodIn wsX9_digest wsX9_splitTold := goodIn_r _ [154, 55, 56, 20, 21, 22, 147, 148, 149, 10, 150, 95, 96, 97, 98, 61, 62, 63, 64, 6, 32, 33, 34, 35, 43, 44, 45, 46, 36, 37, 38, 171, 172, 173, 174, 175, 176, 177, 178, 179, 180, 181, 182, 183, 184, 185, 186, 187, 188, 189, 190, 191, 192, 193, 194] (by decide +kernel) (by decide +kernel)
set_option maxRecDepth 20000 in
theorem gX9_digest_X9_splitTold : GoodIn wsX9_digest (wsV RX9 250 RX9 yX9_splitTold wsX9_splitTold) := goodIn_app (goodIn_of _ (by decide +kernel)) ggX9_digest_X9_splitTold
set_option maxRecDepth 20000 in
theorem ggX9_digest_X9_count : GoodIn wsX9_digest wsX9_count := goodIn_r _ [102, 32, 33, 34, 10, 35, 6, 171, 172, 173, 174, 175, 176, 177, 178, 179, 180, 181, 182, 183, 184, 185, 186, 187, 188, 189, 190, 191, 192, 193, 194] (by decide +kernel) (by decide +kernel)
set_option maxRecDepth 20000 in
theorem gX9_digest_X9_count : GoodIn wsX9_digest (wsV RX9 186 RX9 yX9_count wsX9_count) := goodIn_app (goodIn_of _ (by decide +kernel)) ggX9_digest_X9_count
set_option maxRecDepth 20000 in
theorem ggX9_digest_X9_groupTold : GoodIn wsX9_digest wsX9_groupTold := goodIn_r _ [158, 28, 29, 30, 10, 31, 32, 33, 34, 35, 6, 36, 37, 38, 159, 160, 161, 162, 39, 40, 41, 42, 47, 48, 49, 50, 163, 164, 165, 166, 171, 172, 173, 174, 175, 176, 177, 178, 179, 180, 181, 182, 183, 184, 185, 186, 187, 188, 189, 190, 191, 192, 193, 194] (by decide +kernel) (by decide +kernel)
set_option maxRecDepth 20000 in
theorem gX9_digest_X9_groupTold : GoodIn wsX9_digest (wsV RX9 265 RX9 yX9_groupTold wsX9_groupTold) := goodIn_app (goodIn_of _ (by decide +kernel)) ggX9_digest_X9_groupTold
set_option maxRecDepth 20000 in
theorem ggX9_digest_X9_floatTold : GoodIn wsX9_digest wsX9_floatTold := goodIn_r _ [170, 32, 33, 34, 10, 35, 6, 171, 172, 173, 174, 175, 176, 177, 178, 179, 180, 181, 182, 183, 184, 185, 186, 187, 188, 189, 190, 191, 192, 193, 194] (by decide +kernel) (by decide +kernel)
set_option maxRecDepth 20000 in
theorem gX9_digest_X9_floatTold : GoodIn wsX9_digest (wsV RX9 268 RX9 yX9_floatTold wsX9_floatTold) := goodIn_app (goodIn_of _ (by decide +kernel)) ggX9_digest_X9_floatTold
theorem dX9_digest_0 : decode cX9_digest 0 = .ok (.aload_n 0, 1) := by decide +kernel
theorem dX9_digest_1 : decode cX9_digest 1 = .ok (.iconst 0, 1) := by decide +kernel
theorem dX9_digest_2 : decode cX9_digest 2 = .ok (.putfield 58, 3) := by decide +kernel
theorem dX9_digest_5 : decode cX9_digest 5 = .ok (.aload_n 0, 1) := by decide +kernel
theorem dX9_digest_6 : decode cX9_digest 6 = .ok (.invokevirtual 219, 3) := by decide +kernel
theorem dX9_digest_9 : decode cX9_digest 9 = .ok (.aload_n 0, 1) := by decide +kernel
theorem dX9_digest_10 : decode cX9_digest 10 = .ok (.ldc2_w 346, 3) := by decide +kernel
theorem dX9_digest_13 : decode cX9_digest 13 = .ok (.putfield 340, 3) := by decide +kernel
theorem dX9_digest_16 : decode cX9_digest 16 = .ok (.aload_n 0, 1) := by decide +kernel
theorem dX9_digest_17 : decode cX9_digest 17 = .ok (.aload_n 0, 1) := by decide +kernel
theorem dX9_digest_18 : decode cX9_digest 18 = .ok (.getfield 66, 3) := by decide +kernel
theorem dX9_digest_21 : decode cX9_digest 21 = .ok (.invokevirtual 343, 3) := by decide +kernel
theorem dX9_digest_24 : decode cX9_digest 24 = .ok (.aload_n 0, 1) := by decide +kernel
theorem dX9_digest_25 : decode cX9_digest 25 = .ok (.aload_n 0, 1) := by decide +kernel
theorem dX9_digest_26 : decode cX9_digest 26 = .ok (.getfield 286, 3) := by decide +kernel
theorem dX9_digest_29 : decode cX9_digest 29 = .ok (.invokevirtual 343, 3) := by decide +kernel
theorem dX9_digest_32 : decode cX9_digest 32 = .ok (.iconst 0, 1) := by decide +kernel
theorem dX9_digest_33 : decode cX9_digest 33 = .ok (.istore_n 1, 1) := by decide +kernel
theorem dX9_digest_34 : decode cX9_digest 34 = .ok (.iload_n 1, 1) := by decide +kernel
theorem dX9_digest_35 : decode cX9_digest 35 = .ok (.bipush 12, 2) := by decide +kernel
theorem dX9_digest_37 : decode cX9_digest 37 = .ok (.if_icmp .ge 18, 3) := by decide +kernel
theorem dX9_digest_40 : decode cX9_digest 40 = .ok (.aload_n 0, 1) := by decide +kernel
theorem dX9_digest_41 : decode cX9_digest 41 = .ok (.aload_n 0, 1) := by decide +kernel
theorem dX9_digest_42 : decode cX9_digest 42 = .ok (.iload_n 1, 1) := by decide +kernel
theorem dX9_digest_43 : decode cX9_digest 43 = .ok (.invokevirtual 280, 3) := by decide +kernel
theorem dX9_digest_46 : decode cX9_digest 46 = .ok (.invokevirtual 343, 3) := by decide +kernel
theorem dX9_digest_49 : decode cX9_digest 49 = .ok (.iinc 1 1, 3) := by decide +kernel
theorem dX9_digest_52 : decode cX9_digest 52 = .ok (.goto (-18), 3) := by decide +kernel
theorem dX9_digest_55 : decode cX9_digest 55 = .ok (.iconst 0, 1) := by decide +kernel
theorem dX9_digest_56 : decode cX9_digest 56 = .ok (.istore_n 1, 1) := by decide +kernel
theorem dX9_digest_57 : decode cX9_digest 57 = .ok (.iload_n 1, 1) := by decide +kernel
theorem dX9_digest_58 : decode cX9_digest 58 = .ok (.aload_n 0, 1) := by decide +kernel
theorem dX9_digest_59 : decode cX9_digest 59 = .ok (.getfield 7, 3) := by decide +kernel
theorem dX9_digest_62 : decode cX9_digest 62 = .ok (.iconst 2, 1) := by decide +kernel
theorem dX9_digest_63 : decode cX9_digest 63 = .ok (.iaload, 1) := by decide +kernel
theorem dX9_digest_64 : decode cX9_digest 64 = .ok (.if_icmp .ge 14, 3) := by decide +kernel
theorem dX9_digest_67 : decode cX9_digest 67 = .ok (.aload_n 0, 1) := by decide +kernel
theorem dX9_digest_68 : decode cX9_digest 68 = .ok (.iload_n 1, 1) := by decide +kernel
theorem dX9_digest_69 : decode cX9_digest 69 = .ok (.invokevirtual 348, 3) := by decide +kernel
theorem dX9_digest_72 : decode cX9_digest 72 = .ok (.iinc 1 1, 3) := by decide +kernel
theorem dX9_digest_75 : decode cX9_digest 75 = .ok (.goto (-18), 3) := by decide +kernel
theorem dX9_digest_78 : decode cX9_digest 78 = .ok (.iconst 0, 1) := by decide +kernel
theorem dX9_digest_79 : decode cX9_digest 79 = .ok (.istore_n 1, 1) := by decide +kernel
theorem dX9_digest_80 : decode cX9_digest 80 = .ok (.iload_n 1, 1) := by decide +kernel
theorem dX9_digest_81 : decode cX9_digest 81 = .ok (.aload_n 0, 1) := by decide +kernel
theorem dX9_digest_82 : decode cX9_digest 82 = .ok (.getfield 7, 3) := by decide +kernel
theorem dX9_digest_85 : decode cX9_digest 85 = .ok (.iconst 2, 1) := by decide +kernel
theorem dX9_digest_86 : decode cX9_digest 86 = .ok (.iaload, 1) := by decide +kernel
theorem dX9_digest_87 : decode cX9_digest 87 = .ok (.if_icmp .ge 53, 3) := by decide +kernel
theorem dX9_digest_90 : decode cX9_digest 90 = .ok (.iconst 0, 1) := by decide +kernel
theorem dX9_digest_91 : decode cX9_digest 91 = .ok (.istore_n 2, 1) := by decide +kernel
theorem dX9_digest_92 : decode cX9_digest 92 = .ok (.aload_n 0, 1) := by decide +kernel
theorem dX9_digest_93 : decode cX9_digest 93 = .ok (.iload_n 1, 1) := by decide +kernel
theorem dX9_digest_94 : decode cX9_digest 94 = .ok (.iload_n 2, 1) := by decide +kernel
theorem dX9_digest_95 : decode cX9_digest 95 = .ok (.iconst 0, 1) := by decide +kernel
theorem dX9_digest_96 : decode cX9_digest 96 = .ok (.invokevirtual 246, 3) := by decide +kernel
theorem dX9_digest_99 : decode cX9_digest 99 = .ok (.iconst (-1), 1) := by decide +kernel
theorem dX9_digest_100 : decode cX9_digest 100 = .ok (.if_icmp .eq 34, 3) := by decide +kernel
theorem dX9_digest_103 : decode cX9_digest 103 = .ok (.iconst 0, 1) := by decide +kernel
theorem dX9_digest_104 : decode cX9_digest 104 = .ok (.istore_n 3, 1) := by decide +kernel
theorem dX9_digest_105 : decode cX9_digest 105 = .ok (.iload_n 3, 1) := by decide +kernel
theorem dX9_digest_106 : decode cX9_digest 106 = .ok (.bipush 8, 2) := by decide +kernel
theorem dX9_digest_108 : decode cX9_digest 108 = .ok (.if_icmp .ge 20, 3) := by decide +kernel
theorem dX9_digest_111 : decode cX9_digest 111 = .ok (.aload_n 0, 1) := by decide +kernel
theorem dX9_digest_112 : decode cX9_digest 112 = .ok (.aload_n 0, 1) := by decide +kernel
theorem dX9_digest_113 : decode cX9_digest 113 = .ok (.iload_n 1, 1) := by decide +kernel
theorem dX9_digest_114 : decode cX9_digest 114 = .ok (.iload_n 2, 1) := by decide +kernel
theorem dX9_digest_115 : decode cX9_digest 115 = .ok (.iload_n 3, 1) := by decide +kernel
theorem dX9_digest_116 : decode cX9_digest 116 = .ok (.invokevirtual 250, 3) := by decide +kernel
theorem dX9_digest_119 : decode cX9_digest 119 = .ok (.invokevirtual 343, 3) := by decide +kernel
theorem dX9_digest_122 : decode cX9_digest 122 = .ok (.iinc 3 1, 3) := by decide +kernel
theorem dX9_digest_125 : decode cX9_digest 125 = .ok (.goto (-20), 3) := by decide +kernel
theorem dX9_digest_128 : decode cX9_digest 128 = .ok (.iinc 2 1, 3) := by decide +kernel
theorem dX9_digest_131 : decode cX9_digest 131 = .ok (.goto (-39), 3) := by decide +kernel
theorem dX9_digest_134 : decode cX9_digest 134 = .ok (.iinc 1 1, 3) := by decide +kernel
theorem dX9_digest_137 : decode cX9_digest 137 = .ok (.goto (-57), 3) := by decide +kernel
theorem dX9_digest_140 : decode cX9_digest 140 = .ok (.aload_n 0, 1) := by decide +kernel
theorem dX9_digest_141 : decode cX9_digest 141 = .ok (.iconst 1, 1) := by decide +kernel
theorem dX9_digest_142 : decode cX9_digest 142 = .ok (.invokevirtual 186, 3) := by decide +kernel
theorem dX9_digest_145 : decode cX9_digest 145 = .ok (.istore_n 1, 1) := by decide +kernel
theorem dX9_digest_146 : decode cX9_digest 146 = .ok (.iconst 0, 1) := by decide +kernel
theorem dX9_digest_147 : decode cX9_digest 147 = .ok (.istore_n 2, 1) := by decide +kernel
theorem dX9_digest_148 : decode cX9_digest 148 = .ok (.iload_n 2, 1) := by decide +kernel
theorem dX9_digest_149 : decode cX9_digest 149 = .ok (.iload_n 1, 1) := by decide +kernel
theorem dX9_digest_150 : decode cX9_digest 150 = .ok (.if_icmp .ge 18, 3) := by decide +kernel
theorem dX9_digest_153 : decode cX9_digest 153 = .ok (.aload_n 0, 1) := by decide +kernel
theorem dX9_digest_154 : decode cX9_digest 154 = .ok (.aload_n 0, 1) := by decide +kernel
theorem dX9_digest_155 : decode cX9_digest 155 = .ok (.iload_n 2, 1) := by decide +kernel
theorem dX9_digest_156 : decode cX9_digest 156 = .ok (.invokevirtual 265, 3) := by decide +kernel
theorem dX9_digest_159 : decode cX9_digest 159 = .ok (.invokevirtual 343, 3) := by decide +kernel
theorem dX9_digest_162 : decode cX9_digest 162 = .ok (.iinc 2 1, 3) := by decide +kernel
theorem dX9_digest_165 : decode cX9_digest 165 = .ok (.goto (-17), 3) := by decide +kernel
theorem dX9_digest_168 : decode cX9_digest 168 = .ok (.aload_n 0, 1) := by decide +kernel
theorem dX9_digest_169 : decode cX9_digest 169 = .ok (.iconst 4, 1) := by decide +kernel
theorem dX9_digest_170 : decode cX9_digest 170 = .ok (.invokevirtual 186, 3) := by decide +kernel
theorem dX9_digest_173 : decode cX9_digest 173 = .ok (.istore_n 2, 1) := by decide +kernel
theorem dX9_digest_174 : decode cX9_digest 174 = .ok (.iconst 0, 1) := by decide +kernel
theorem dX9_digest_175 : decode cX9_digest 175 = .ok (.istore_n 3, 1) := by decide +kernel
theorem dX9_digest_176 : decode cX9_digest 176 = .ok (.iload_n 3, 1) := by decide +kernel
theorem dX9_digest_177 : decode cX9_digest 177 = .ok (.iload_n 2, 1) := by decide +kernel
theorem dX9_digest_178 : decode cX9_digest 178 = .ok (.if_icmp .ge 18, 3) := by decide +kernel
theorem dX9_digest_181 : decode cX9_digest 181 = .ok (.aload_n 0, 1) := by decide +kernel
theorem dX9_digest_182 : decode cX9_digest 182 = .ok (.aload_n 0, 1) := by decide +kernel
theorem dX9_digest_183 : decode cX9_digest 183 = .ok (.iload_n 3, 1) := by decide +kernel
theorem dX9_digest_184 : decode cX9_digest 184 = .ok (.invokevirtual 268, 3) := by decide +kernel
theorem dX9_digest_187 : decode cX9_digest 187 = .ok (.invokevirtual 343, 3) := by decide +kernel
theorem dX9_digest_190 : decode cX9_digest 190 = .ok (.iinc 3 1, 3) := by decide +kernel
theorem dX9_digest_193 : decode cX9_digest 193 = .ok (.goto (-17), 3) := by decide +kernel
theorem dX9_digest_196 : decode cX9_digest 196 = .ok (.iconst 0, 1) := by decide +kernel
theorem dX9_digest_197 : decode cX9_digest 197 = .ok (.istore_n 3, 1) := by decide +kernel
theorem dX9_digest_198 : decode cX9_digest 198 = .ok (.iload_n 3, 1) := by decide +kernel
theorem dX9_digest_199 : decode cX9_digest 199 = .ok (.iconst 4, 1) := by decide +kernel
theorem dX9_digest_200 : decode cX9_digest 200 = .ok (.if_icmp .ge 27, 3) := by decide +kernel
theorem dX9_digest_203 : decode cX9_digest 203 = .ok (.aload_n 0, 1) := by decide +kernel
theorem dX9_digest_204 : decode cX9_digest 204 = .ok (.aload_n 0, 1) := by decide +kernel
theorem dX9_digest_205 : decode cX9_digest 205 = .ok (.getfield 7, 3) := by decide +kernel
theorem dX9_digest_208 : decode cX9_digest 208 = .ok (.sipush 355, 3) := by decide +kernel
theorem dX9_digest_211 : decode cX9_digest 211 = .ok (.sipush 321, 3) := by decide +kernel
theorem dX9_digest_214 : decode cX9_digest 214 = .ok (.iload_n 3, 1) := by decide +kernel
theorem dX9_digest_215 : decode cX9_digest 215 = .ok (.imul, 1) := by decide +kernel
theorem dX9_digest_216 : decode cX9_digest 216 = .ok (.iadd, 1) := by decide +kernel
theorem dX9_digest_217 : decode cX9_digest 217 = .ok (.iaload, 1) := by decide +kernel
theorem dX9_digest_218 : decode cX9_digest 218 = .ok (.invokevirtual 343, 3) := by decide +kernel
theorem dX9_digest_221 : decode cX9_digest 221 = .ok (.iinc 3 1, 3) := by decide +kernel
theorem dX9_digest_224 : decode cX9_digest 224 = .ok (.goto (-26), 3) := by decide +kernel
theorem dX9_digest_227 : decode cX9_digest 227 = .ok (.aload_n 0, 1) := by decide +kernel
theorem dX9_digest_228 : decode cX9_digest 228 = .ok (.getfield 340, 3) := by decide +kernel
theorem dX9_digest_231 : decode cX9_digest 231 = .ok (.lreturn, 1) := by decide +kernel
theorem hin_X9_digest_X9 : ∀ w ∈ wsX90, w ∈ wsX9_digest := by decide +kernel
theorem lk_X9_digest_58 : Cond.fieldLink RX9 58 RX9 "thrown" "I" ∈ wsX9_digest := by decide +kernel
theorem lk_X9_digest_340 : Cond.fieldLink RX9 340 RX9 "h" "J" ∈ wsX9_digest := by decide +kernel
theorem lk_X9_digest_66 : Cond.fieldLink RX9 66 RX9 "pasts" "I" ∈ wsX9_digest := by decide +kernel
theorem lk_X9_digest_286 : Cond.fieldLink RX9 286 RX9 "typed" "I" ∈ wsX9_digest := by decide +kernel
theorem lk_X9_digest_7 : Cond.fieldLink RX9 7 RX9 "s" "[I" ∈ wsX9_digest := by decide +kernel
theorem m_digest (hG : GP G) (hM : MoS S r) (hW : MWo mu r) (hy : LyOk (mu0 mu r) r (trT (mu0 mu r) r) (zOf (mu0 mu r) r) (mu (r + 1) 0) (mu (r + 1) 1)) (hf : okG (trT (mu0 mu r) r)) (he : ∀ p, 0 ≤ p ∧ p < 16 → trT (mu0 mu r) r 9 p ≠ -1 → abE (trT (mu0 mu r) r) 40 (trT (mu0 mu r) r 1 (trT (mu0 mu r) r 9 p))) (hs : ∀ p, 0 ≤ p ∧ p < 16 → saF (trT (mu0 mu r) r) p 39 0 = -1) :
    Ct G l yX9_digest wsX9_digest 7 0 0 [.ref r] S n mu la (Dt (some (.long (diR (mu0 mu r) r (trT (mu0 mu r) r) (qW (mu0 mu r) r) (zW (mu0 mu r) r)))) S n (lyW (mu0 mu r) r) (upl la r 23 (diR (mu0 mu r) r (trT (mu0 mu r) r) (qW (mu0 mu r) r) (zW (mu0 mu r) r)))) := by
  have o9 := hM.1
  have em : ∀ i, mu0 mu r (r + 1) i = mu (r + 1) i := fun i => up_a _ _ _ _ (by omega)
  have hW0 : MWo (mu0 mu r) r := by
    obtain ⟨w1, w2, w3, w4, w5⟩ := hW
    refine ⟨R32_up w1 _ _ (by omega), ?_, by rw [em]; exact w3, by unfold mu0; rw [up_i _ _ _ (by decide)]; exact w4, by unfold mu0; rw [up_i _ _ _ (by decide)]; exact w5⟩
    rw [show trT (mu0 mu r) r = trT mu r by
      funext w i
      unfold trT
      rw [em, em, em]]
    exact w2
  rw [← em 0, ← em 1] at hy
  refine Ct.ofV (cc := cX9_digest) (nL := 4) (ret := (some .long)) [some (.ref r), none, none, none] hG (by decide) rfl (Nat.le_of_ble_eq_true rfl) rfl ?_
  rintro X rfl rfl C hcl hsl E
  have body : ∀ (m T Z : Mem) (q : Int), R32 m → R32Z Z → TB 10000000 T → (0 ≤ m (r + 1) 2 ∧ m (r + 1) 2 ≤ 16) → (0 ≤ q ∧ q ≤ 32) → (∀ i, 0 ≤ i ∧ i < q → 0 ≤ Z 6 i ∧ Z 6 i < 32) → okG T → (∀ p, 0 ≤ p ∧ p < 16 → T 9 p ≠ -1 → abE T 40 (T 1 (T 9 p))) → (∀ p, 0 ≤ p ∧ p < 16 → saF T p 39 0 = -1) →
      En X 0 0 (Dt (some (.long (diR m r T q Z))) S n (lyM m r T q Z) (upl la r 23 (diR m r T q Z))) → V X 9 [some (.ref r), none, none, none] [] S n (lyM m r T q Z) la 0 0 := by
    intro m T Z q hR0 hRZ hB hP hq h6 hf he hs E
    have em4 : lyM m r T q Z r 4 = m r 4 := by rw [lyM, pt_r]; unfold zM; rw [if_neg (by omega), if_neg (by omega)]
    have em6 : lyM m r T q Z r 6 = m r 6 := by rw [lyM, pt_r]; unfold zM; rw [if_neg (by omega), if_neg (by omega)]
    have b1 := ctT_b T 1
    have b4 := ctT_b T 4
    unfold diR at E
    generalize eG1 : mx (mx 43151 (m r 4)) (m r 6) = g1 at E
    generalize eG2 : mxG (fun k => wvF m r T q Z k) 12 0 g1 = g2 at E
    generalize eG3 : mxA m r T Z (m (r + 1) 2).toNat 0 g2 = g3 at E
    generalize eG4 : mxB T Z (m (r + 1) 2).toNat 0 g3 = g4 at E
    generalize eG5 : mxG (fun k => gvT T k) (ctT T 1).toNat 0 g4 = g5 at E
    generalize eG6 : mxG (fun k => fvG T k 32) (ctT T 4).toNat 0 g5 = g6 at E
    generalize eG7 : mxG (fun k => m (r + 1) (355 + 321 * k)) 4 0 g6 = g7 at E
    have loop7 : ∀ (d : Nat) (k : Int) (g : Int64) (w1 : Option Value), k + d = 4 → 0 ≤ k → mxG (fun k => m (r + 1) (355 + 321 * k)) d k g = g7 → V X 198 [some (.ref r), w1, some (.int (I32 (ctT T 4))), some (.int (I32 k))] [] S n (lyM m r T q Z) (upl la r 23 g) 0 0 := by
      intro d
      induction d with
      | zero =>
        intro k g w1 h1 h2 h3
        have h3 : g = g7 := h3
        subst h3
        refine V_iload_n C dX9_digest_198 rfl ?_
        refine V_iconst C dX9_digest_199 ?_
        refine V_icmp_ge C 227 dX9_digest_200 (by decide) (by omega) (by omega) (fun z => ?_) (fun z => ?_)
        · refine V_aload_n C dX9_digest_227 rfl ?_
          refine V_getL C 23 dX9_digest_228 o9 rfl hin_X9_digest_X9 (by decide) lk_X9_digest_340 rfl rfl ?_
          rw [upl_s]
          refine V_lreturn C E dX9_digest_231 (by omega) (by omega) ?_
          exact Dt_rfl
        · exact absurd z (by omega)
      | succ d ih =>
        intro k g w1 h1 h2 h3
        rw [mxG] at h3
        refine V_iload_n C dX9_digest_198 rfl ?_
        refine V_iconst C dX9_digest_199 ?_
        refine V_icmp_ge C 227 dX9_digest_200 (by decide) (by omega) (by omega) (fun z => ?_) (fun z => ?_)
        · exact absurd z (by omega)
        · refine V_aload_n C dX9_digest_203 rfl ?_
          refine V_aload_n C dX9_digest_204 rfl ?_
          refine V_getR C 0 dX9_digest_205 o9 rfl hin_X9_digest_X9 (by decide) lk_X9_digest_7 rfl rfl ?_
          refine V_sipush C dX9_digest_208 (by decide +kernel) ?_
          refine V_sipush C dX9_digest_211 (by decide +kernel) ?_
          refine V_iload_n C dX9_digest_214 rfl ?_
          refine V_imul C dX9_digest_215 ?_
          refine V_iadd C dX9_digest_216 ?_
          refine V_ialdJ C dX9_digest_217 hM.2.1 (by first | assumption | decide) (by omega) (zM_1 (by omega)) ?_
          refine V_callVD (nA := 1) C dX9_digest_218 (u_mix C.gp hM) gX9_digest_X9_mix rfl o9 rfl (by decide +kernel) rfl (by decide) (by decide) (Nat.le_of_ble_eq_true rfl) ⟨by omega, by omega⟩ rfl ?_
          refine V_iinc C dX9_digest_221 rfl rfl (by decide) ?_
          refine V_goto C 198 dX9_digest_224 (by decide) ?_
          exact ih (k + 1) _ _ (by omega) (by omega) h3
    have loop6 : ∀ (d : Nat) (k : Int) (g : Int64) (w1 : Option Value), k + d = ctT T 4 → 0 ≤ k → mxG (fun k => fvG T k 32) d k g = g6 → V X 176 [some (.ref r), w1, some (.int (I32 (ctT T 4))), some (.int (I32 k))] [] S n (lyM m r T q Z) (upl la r 23 g) 0 0 := by
      intro d
      induction d with
      | zero =>
        intro k g w1 h1 h2 h3
        have h3 : g = g6 := h3
        subst h3
        refine V_iload_n C dX9_digest_176 rfl ?_
        refine V_iload_n C dX9_digest_177 rfl ?_
        refine V_icmp_ge C 196 dX9_digest_178 (by decide) (by omega) (by omega) (fun z => ?_) (fun z => ?_)
        · refine V_iconst C dX9_digest_196 ?_
          refine V_istore_n C dX9_digest_197 rfl (by decide) ?_
          exact loop7 4 0 _ _ (by omega) (by omega) eG7
        · exact absurd z (by omega)
      | succ d ih =>
        intro k g w1 h1 h2 h3
        rw [mxG] at h3
        refine V_iload_n C dX9_digest_176 rfl ?_
        refine V_iload_n C dX9_digest_177 rfl ?_
        refine V_icmp_ge C 196 dX9_digest_178 (by decide) (by omega) (by omega) (fun z => ?_) (fun z => ?_)
        · exact absurd z (by omega)
        · refine V_aload_n C dX9_digest_181 rfl ?_
          refine V_aload_n C dX9_digest_182 rfl ?_
          refine V_iload_n C dX9_digest_183 rfl ?_
          refine V_callVD (nA := 1) C dX9_digest_184 (m_floatTold C.gp hM hB (by decide) (by omega)) gX9_digest_X9_floatTold rfl o9 rfl (by decide +kernel) rfl (by decide) (by decide) (Nat.le_of_ble_eq_true rfl) ⟨by omega, by omega⟩ rfl ?_
          refine V_callVD (nA := 1) C dX9_digest_187 (u_mix C.gp hM) gX9_digest_X9_mix rfl o9 rfl (by decide +kernel) rfl (by decide) (by decide) (Nat.le_of_ble_eq_true rfl) ⟨by omega, by omega⟩ rfl ?_
          refine V_iinc C dX9_digest_190 rfl rfl (by decide) ?_
          refine V_goto C 176 dX9_digest_193 (by decide) ?_
          exact ih (k + 1) _ _ (by omega) (by omega) h3
    have loop5 : ∀ (d : Nat) (k : Int) (g : Int64) (w3 : Option Value), k + d = ctT T 1 → 0 ≤ k → mxG (fun k => gvT T k) d k g = g5 → V X 148 [some (.ref r), some (.int (I32 (ctT T 1))), some (.int (I32 k)), w3] [] S n (lyM m r T q Z) (upl la r 23 g) 0 0 := by
      intro d
      induction d with
      | zero =>
        intro k g w3 h1 h2 h3
        have h3 : g = g5 := h3
        subst h3
        refine V_iload_n C dX9_digest_148 rfl ?_
        refine V_iload_n C dX9_digest_149 rfl ?_
        refine V_icmp_ge C 168 dX9_digest_150 (by decide) (by omega) (by omega) (fun z => ?_) (fun z => ?_)
        · refine V_aload_n C dX9_digest_168 rfl ?_
          refine V_iconst C dX9_digest_169 ?_
          refine V_callVD (nA := 1) C dX9_digest_170 (m_count C.gp hM hB (by decide) (by omega)) gX9_digest_X9_count rfl o9 rfl (by decide +kernel) rfl (by decide) (by decide) (Nat.le_of_ble_eq_true rfl) ⟨by omega, by omega⟩ rfl ?_
          refine V_istore_n C dX9_digest_173 rfl (by decide) ?_
          refine V_iconst C dX9_digest_174 ?_
          refine V_istore_n C dX9_digest_175 rfl (by decide) ?_
          exact loop6 (ctT T 4).toNat 0 _ _ (by omega) (by omega) eG6
        · exact absurd z (by omega)
      | succ d ih =>
        intro k g w3 h1 h2 h3
        rw [mxG] at h3
        refine V_iload_n C dX9_digest_148 rfl ?_
        refine V_iload_n C dX9_digest_149 rfl ?_
        refine V_icmp_ge C 168 dX9_digest_150 (by decide) (by omega) (by omega) (fun z => ?_) (fun z => ?_)
        · exact absurd z (by omega)
        · refine V_aload_n C dX9_digest_153 rfl ?_
          refine V_aload_n C dX9_digest_154 rfl ?_
          refine V_iload_n C dX9_digest_155 rfl ?_
          refine V_callVD (nA := 1) C dX9_digest_156 (m_groupTold C.gp hM hB (by decide) (by omega) hf) gX9_digest_X9_groupTold rfl o9 rfl (by decide +kernel) rfl (by decide) (by decide) (Nat.le_of_ble_eq_true rfl) ⟨by omega, by omega⟩ rfl ?_
          refine V_callVD (nA := 1) C dX9_digest_159 (u_mix C.gp hM) gX9_digest_X9_mix rfl o9 rfl (by decide +kernel) rfl (by decide) (by decide) (Nat.le_of_ble_eq_true rfl) ⟨by omega, by omega⟩ rfl ?_
          refine V_iinc C dX9_digest_162 rfl rfl (by decide) ?_
          refine V_goto C 148 dX9_digest_165 (by decide) ?_
          exact ih (k + 1) _ _ (by omega) (by omega) h3
    have loop4 : ∀ (d : Nat) (p : Int) (g : Int64) (w2 w3 : Option Value), p + d = m (r + 1) 2 → 0 ≤ p → mxB T Z d p g = g4 → V X 80 [some (.ref r), some (.int (I32 p)), w2, w3] [] S n (lyM m r T q Z) (upl la r 23 g) 0 0 := by
      intro d
      induction d with
      | zero =>
        intro p g w2 w3 h1 h2 h3
        have h3 : g = g4 := h3
        subst h3
        refine V_iload_n C dX9_digest_80 rfl ?_
        refine V_aload_n C dX9_digest_81 rfl ?_
        refine V_getR C 0 dX9_digest_82 o9 rfl hin_X9_digest_X9 (by decide) lk_X9_digest_7 rfl rfl ?_
        refine V_iconst C dX9_digest_85 ?_
        refine V_ialdJ C dX9_digest_86 hM.2.1 (by first | assumption | decide) (by omega) (zM_1 (by decide)) ?_
        refine V_icmp_ge C 140 dX9_digest_87 (by decide) (by omega) (by omega) (fun z => ?_) (fun z => ?_)
        · refine V_aload_n C dX9_digest_140 rfl ?_
          refine V_iconst C dX9_digest_141 ?_
          refine V_callVD (nA := 1) C dX9_digest_142 (m_count C.gp hM hB (by decide) (by omega)) gX9_digest_X9_count rfl o9 rfl (by decide +kernel) rfl (by decide) (by decide) (Nat.le_of_ble_eq_true rfl) ⟨by omega, by omega⟩ rfl ?_
          refine V_istore_n C dX9_digest_145 rfl (by decide) ?_
          refine V_iconst C dX9_digest_146 ?_
          refine V_istore_n C dX9_digest_147 rfl (by decide) ?_
          exact loop5 (ctT T 1).toNat 0 _ _ (by omega) (by omega) eG5
        · exact absurd z (by omega)
      | succ d ih =>
        intro p g w2 w3 h1 h2 h3
        rw [mxB] at h3
        have hs9 := hs p (by omega)
        have levels : ∀ (e : Nat) (v : Int) (g9 : Int64) (w3 : Option Value), v + e = 40 → 0 ≤ v ∧ v ≤ 39 → mxL T Z p e v g9 = mxL T Z p 40 0 g → V X 92 [some (.ref r), some (.int (I32 p)), some (.int (I32 v)), w3] [] S n (lyM m r T q Z) (upl la r 23 g9) 0 0 := by
          have done : ∀ (v : Int) (g9 : Int64) (w3 : Option Value), 0 ≤ v ∧ v < 40 → saF T p v 0 = -1 → g9 = mxL T Z p 40 0 g → V X 92 [some (.ref r), some (.int (I32 p)), some (.int (I32 v)), w3] [] S n (lyM m r T q Z) (upl la r 23 g9) 0 0 := by
            intro v g9 w3 k1 k2 k3
            rw [← k3] at h3
            refine V_aload_n C dX9_digest_92 rfl ?_
            refine V_iload_n C dX9_digest_93 rfl ?_
            refine V_iload_n C dX9_digest_94 rfl ?_
            refine V_iconst C dX9_digest_95 ?_
            refine V_callVD (nA := 3) C dX9_digest_96 (m_splitAt C.gp hM hB (by decide) (by omega) (by omega) (by omega)) gX9_digest_X9_splitAt rfl o9 rfl (by decide +kernel) rfl (by decide) (by decide) (Nat.le_of_ble_eq_true rfl) ⟨by omega, by omega⟩ rfl ?_
            rw [k2]
            refine V_iconst C dX9_digest_99 ?_
            refine V_icmp_eq C 134 dX9_digest_100 (by decide) (by omega) (by omega) (fun z => ?_) (fun z => ?_)
            · refine V_iinc C dX9_digest_134 rfl rfl (by decide) ?_
              refine V_goto C 80 dX9_digest_137 (by decide) ?_
              exact ih (p + 1) _ _ _ (by omega) (by omega) h3
            · exact absurd rfl z
          intro e
          induction e with
          | zero =>
            intro v g9 w3 k1 k2 k3
            omega
          | succ e ihe =>
            intro v g9 w3 k1 k2 k3
            rw [mxL] at k3
            by_cases hz : saF T p v 0 = -1
            · rw [if_pos hz] at k3
              exact done v g9 w3 (by omega) hz k3
            · rw [if_neg hz] at k3
              have h39 : v ≠ 39 := fun q => hz (by rw [q]; exact hs9)
              have inner : ∀ (f : Nat) (w : Int) (g8 : Int64), w + f = 8 → 0 ≤ w → mxG (fun w => stF T Z p v w) f w g8 = mxG (fun w => stF T Z p v w) 8 0 g9 → V X 105 [some (.ref r), some (.int (I32 p)), some (.int (I32 v)), some (.int (I32 w))] [] S n (lyM m r T q Z) (upl la r 23 g8) 0 0 := by
                intro f
                induction f with
                | zero =>
                  intro w g8 q1 q2 q3
                  rw [mxG] at q3
                  rw [← q3] at k3
                  refine V_iload_n C dX9_digest_105 rfl ?_
                  refine V_bipush C dX9_digest_106 (by decide +kernel) ?_
                  refine V_icmp_ge C 128 dX9_digest_108 (by decide) (by omega) (by omega) (fun z => ?_) (fun z => ?_)
                  · refine V_iinc C dX9_digest_128 rfl rfl (by decide) ?_
                    refine V_goto C 92 dX9_digest_131 (by decide) ?_
                    exact ihe (v + 1) _ _ (by omega) (by omega) k3
                  · exact absurd z (by omega)
                | succ f ihf =>
                  intro w g8 q1 q2 q3
                  rw [mxG] at q3
                  refine V_iload_n C dX9_digest_105 rfl ?_
                  refine V_bipush C dX9_digest_106 (by decide +kernel) ?_
                  refine V_icmp_ge C 128 dX9_digest_108 (by decide) (by omega) (by omega) (fun z => ?_) (fun z => ?_)
                  · exact absurd z (by omega)
                  · refine V_aload_n C dX9_digest_111 rfl ?_
                    refine V_aload_n C dX9_digest_112 rfl ?_
                    refine V_iload_n C dX9_digest_113 rfl ?_
                    refine V_iload_n C dX9_digest_114 rfl ?_
                    refine V_iload_n C dX9_digest_115 rfl ?_
                    refine V_callVD (nA := 3) C dX9_digest_116 (m_splitTold C.gp hM hB (by decide) (by omega) (by omega) (by omega)) gX9_digest_X9_splitTold rfl o9 rfl (by decide +kernel) rfl (by decide) (by decide) (Nat.le_of_ble_eq_true rfl) ⟨by omega, by omega⟩ rfl ?_
                    refine V_callVD (nA := 1) C dX9_digest_119 (u_mix C.gp hM) gX9_digest_X9_mix rfl o9 rfl (by decide +kernel) rfl (by decide) (by decide) (Nat.le_of_ble_eq_true rfl) ⟨by omega, by omega⟩ rfl ?_
                    refine V_iinc C dX9_digest_122 rfl rfl (by decide) ?_
                    refine V_goto C 105 dX9_digest_125 (by decide) ?_
                    exact ihf (w + 1) _ (by omega) (by omega) q3
              have bsa : -1 ≤ saF T p v 0 ∧ saF T p v 0 < 32 := by
                have bu := upT_b hB v.toNat (T 9 p) (by have := hB.g (i := p) (by omega); omega)
                unfold saF
                split
                · split
                  · exact bu
                  · have b1 := hB.p (i := upT T v.toNat (T 9 p)) (by omega)
                    omega
                · omega
              refine V_aload_n C dX9_digest_92 rfl ?_
              refine V_iload_n C dX9_digest_93 rfl ?_
              refine V_iload_n C dX9_digest_94 rfl ?_
              refine V_iconst C dX9_digest_95 ?_
              refine V_callVD (nA := 3) C dX9_digest_96 (m_splitAt C.gp hM hB (by decide) (by omega) (by omega) (by omega)) gX9_digest_X9_splitAt rfl o9 rfl (by decide +kernel) rfl (by decide) (by decide) (Nat.le_of_ble_eq_true rfl) ⟨by omega, by omega⟩ rfl ?_
              refine V_iconst C dX9_digest_99 ?_
              refine V_icmp_eq C 134 dX9_digest_100 (by decide) (by omega) (by omega) (fun z => ?_) (fun z => ?_)
              · exact absurd z hz
              · refine V_iconst C dX9_digest_103 ?_
                refine V_istore_n C dX9_digest_104 rfl (by decide) ?_
                exact inner 8 0 g9 (by omega) (by omega) rfl
        refine V_iload_n C dX9_digest_80 rfl ?_
        refine V_aload_n C dX9_digest_81 rfl ?_
        refine V_getR C 0 dX9_digest_82 o9 rfl hin_X9_digest_X9 (by decide) lk_X9_digest_7 rfl rfl ?_
        refine V_iconst C dX9_digest_85 ?_
        refine V_ialdJ C dX9_digest_86 hM.2.1 (by first | assumption | decide) (by omega) (zM_1 (by decide)) ?_
        refine V_icmp_ge C 140 dX9_digest_87 (by decide) (by omega) (by omega) (fun z => ?_) (fun z => ?_)
        · exact absurd z (by omega)
        · refine V_iconst C dX9_digest_90 ?_
          refine V_istore_n C dX9_digest_91 rfl (by decide) ?_
          exact levels 40 0 g _ (by omega) (by omega) rfl
    have loop3 : ∀ (d : Nat) (p : Int) (g : Int64), p + d = m (r + 1) 2 → 0 ≤ p → mxA m r T Z d p g = g3 → V X 57 [some (.ref r), some (.int (I32 p)), none, none] [] S n (lyM m r T q Z) (upl la r 23 g) 0 0 := by
      intro d
      induction d with
      | zero =>
        intro p g h1 h2 h3
        have h3 : g = g3 := h3
        subst h3
        refine V_iload_n C dX9_digest_57 rfl ?_
        refine V_aload_n C dX9_digest_58 rfl ?_
        refine V_getR C 0 dX9_digest_59 o9 rfl hin_X9_digest_X9 (by decide) lk_X9_digest_7 rfl rfl ?_
        refine V_iconst C dX9_digest_62 ?_
        refine V_ialdJ C dX9_digest_63 hM.2.1 (by first | assumption | decide) (by omega) (zM_1 (by decide)) ?_
        refine V_icmp_ge C 78 dX9_digest_64 (by decide) (by omega) (by omega) (fun z => ?_) (fun z => ?_)
        · refine V_iconst C dX9_digest_78 ?_
          refine V_istore_n C dX9_digest_79 rfl (by decide) ?_
          exact loop4 (m (r + 1) 2).toNat 0 _ _ _ (by omega) (by omega) eG4
        · exact absurd z (by omega)
      | succ d ih =>
        intro p g h1 h2 h3
        rw [mxA] at h3
        refine V_iload_n C dX9_digest_57 rfl ?_
        refine V_aload_n C dX9_digest_58 rfl ?_
        refine V_getR C 0 dX9_digest_59 o9 rfl hin_X9_digest_X9 (by decide) lk_X9_digest_7 rfl rfl ?_
        refine V_iconst C dX9_digest_62 ?_
        refine V_ialdJ C dX9_digest_63 hM.2.1 (by first | assumption | decide) (by omega) (zM_1 (by decide)) ?_
        refine V_icmp_ge C 78 dX9_digest_64 (by decide) (by omega) (by omega) (fun z => ?_) (fun z => ?_)
        · exact absurd z (by omega)
        · refine V_aload_n C dX9_digest_67 rfl ?_
          refine V_iload_n C dX9_digest_68 rfl ?_
          refine V_callVD (nA := 1) C dX9_digest_69 (u_mixPane C.gp hM hRZ hB (by decide) hP (by omega) (he p (by omega))) gX9_digest_X9_mixPane rfl o9 rfl (by decide +kernel) rfl (by decide) (by decide) (Nat.le_of_ble_eq_true rfl) ⟨by omega, by omega⟩ rfl ?_
          refine V_iinc C dX9_digest_72 rfl rfl (by decide) ?_
          refine V_goto C 57 dX9_digest_75 (by decide) ?_
          exact ih (p + 1) _ (by omega) (by omega) h3
    have loop2 : ∀ (d : Nat) (k : Int) (g : Int64), k + d = 12 → 0 ≤ k → mxG (fun k => wvF m r T q Z k) d k g = g2 → V X 34 [some (.ref r), some (.int (I32 k)), none, none] [] S n (lyM m r T q Z) (upl la r 23 g) 0 0 := by
      intro d
      induction d with
      | zero =>
        intro k g h1 h2 h3
        have h3 : g = g2 := h3
        subst h3
        refine V_iload_n C dX9_digest_34 rfl ?_
        refine V_bipush C dX9_digest_35 (by decide +kernel) ?_
        refine V_icmp_ge C 55 dX9_digest_37 (by decide) (by omega) (by omega) (fun z => ?_) (fun z => ?_)
        · refine V_iconst C dX9_digest_55 ?_
          refine V_istore_n C dX9_digest_56 rfl (by decide) ?_
          exact loop3 (m (r + 1) 2).toNat 0 _ (by omega) (by omega) eG3
        · exact absurd z (by omega)
      | succ d ih =>
        intro k g h1 h2 h3
        rw [mxG] at h3
        refine V_iload_n C dX9_digest_34 rfl ?_
        refine V_bipush C dX9_digest_35 (by decide +kernel) ?_
        refine V_icmp_ge C 55 dX9_digest_37 (by decide) (by omega) (by omega) (fun z => ?_) (fun z => ?_)
        · exact absurd z (by omega)
        · refine V_aload_n C dX9_digest_40 rfl ?_
          refine V_aload_n C dX9_digest_41 rfl ?_
          refine V_iload_n C dX9_digest_42 rfl ?_
          refine V_callVD (nA := 1) C dX9_digest_43 (m_wholeTold C.gp hM hB (by decide) hP hq h6 (by omega)) gX9_digest_X9_wholeTold rfl o9 rfl (by decide +kernel) rfl (by decide) (by decide) (Nat.le_of_ble_eq_true rfl) ⟨by omega, by omega⟩ rfl ?_
          refine V_callVD (nA := 1) C dX9_digest_46 (u_mix C.gp hM) gX9_digest_X9_mix rfl o9 rfl (by decide +kernel) rfl (by decide) (by decide) (Nat.le_of_ble_eq_true rfl) ⟨by omega, by omega⟩ rfl ?_
          refine V_iinc C dX9_digest_49 rfl rfl (by decide) ?_
          refine V_goto C 34 dX9_digest_52 (by decide) ?_
          exact ih (k + 1) _ (by omega) (by omega) h3
    refine V_aload_n C dX9_digest_9 rfl ?_
    refine V_ldc2 C (v := 43151) dX9_digest_10 (by decide +kernel) ?_
    refine V_putL C 23 dX9_digest_13 o9 rfl hin_X9_digest_X9 tyX9 tyX9_ok nmX9 (by decide) lk_X9_digest_340 rfl rfl (by decide +kernel) rfl ?_
    refine V_aload_n C dX9_digest_16 rfl ?_
    refine V_aload_n C dX9_digest_17 rfl ?_
    refine V_getJ C 4 4 rfl dX9_digest_18 o9 rfl hin_X9_digest_X9 (by decide) lk_X9_digest_66 rfl rfl (em4) ?_
    refine V_callVD (nA := 1) C dX9_digest_21 (u_mix C.gp hM) gX9_digest_X9_mix rfl o9 rfl (by decide +kernel) rfl (by decide) (by decide) (Nat.le_of_ble_eq_true rfl) ⟨by omega, by omega⟩ rfl ?_
    refine V_aload_n C dX9_digest_24 rfl ?_
    refine V_aload_n C dX9_digest_25 rfl ?_
    refine V_getJ C 6 6 rfl dX9_digest_26 o9 rfl hin_X9_digest_X9 (by decide) lk_X9_digest_286 rfl rfl (em6) ?_
    refine V_callVD (nA := 1) C dX9_digest_29 (u_mix C.gp hM) gX9_digest_X9_mix rfl o9 rfl (by decide +kernel) rfl (by decide) (by decide) (Nat.le_of_ble_eq_true rfl) ⟨by omega, by omega⟩ rfl ?_
    refine V_iconst C dX9_digest_32 ?_
    refine V_istore_n C dX9_digest_33 rfl (by decide) ?_
    exact loop2 12 0 _ (by omega) (by omega) (by rw [← eG2, ← eG1])
  refine V_aload_n C dX9_digest_0 rfl ?_
  refine V_iconst C dX9_digest_1 ?_
  refine V_putJ C 7 7 rfl dX9_digest_2 o9 rfl hin_X9_digest_X9 tyX9 tyX9_ok nmX9 (by decide) lk_X9_digest_58 rfl rfl (by decide +kernel) rfl rfl ?_
  rw [show up mu r 7 0 = mu0 mu r from rfl]
  refine V_aload_n C dX9_digest_5 rfl ?_
  refine V_callVD (nA := 0) C dX9_digest_6 (a_laysAll C.gp hM hW0 hy) gX9_digest_X9_laysAll rfl o9 rfl (by decide +kernel) rfl (by decide) (by decide) (Nat.le_of_ble_eq_true rfl) ⟨by omega, by omega⟩ rfl ?_
  exact body (mu0 mu r) (trT (mu0 mu r) r) (zW (mu0 mu r) r) (qW (mu0 mu r) r) hW0.1 (zW_R hW0 hy) hW0.2.1 hW0.2.2.1 hy.2.1 (zW_6 hy) hf he hs E
end MG
