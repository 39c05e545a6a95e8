/-! DockTree: the checksum -/
def mx (h : Int64) (v : Int) : Int64 := 31 * h + (I32 v).toInt64
def mxG (F : Int → Int) : Nat → Int → Int64 → Int64
  | 0, _, h => h
  | d + 1, i, h => mxG F d (i + 1) (mx h (F i))
def mxP (mu : Mem) (c p : Nat) (x : Int) (h : Int64) : Int64 := mx (mx (mxG (fun w => paF mu c p x w) 12 0 h) (tabF (lay mu (c + 2)) x 0)) (tabF (lay mu (c + 2)) x 1)
def mpG (mu : Mem) (c p : Nat) : Nat → Int → Int64 → Int64
  | 0, _, h => h
  | d + 1, x, h => mpG mu c p d (x + 1) (mxP mu c p x h)
def msL (mu : Mem) (c p : Nat) (x : Int) : Nat → Int → Int64 → Int64
  | 0, _, h => h
  | d + 1, v, h => msL mu c p x d (v + 1) (mxG (fun w => spvF (lay mu (c + 2)) (pl mu p) x v w) 8 0 h)
def dpF (mu : Mem) (c p : Nat) (x : Int) : Int := if sttF (lay mu (c + 2)) x = 0 then 0 else gK (pl mu p) 7 49 (gL (lay mu (c + 2)) 0 x)
def mzG (mu : Mem) (c p : Nat) : Nat → Int → Int64 → Int64
  | 0, _, h => h
  | d + 1, x, h => mzG mu c p d (x + 1) (msL mu c p x (dpF mu c p x).toNat 0 h)
def diF (mu : Mem) (c h t p : Nat) : Int64 :=
  mxG (fun k => hkF mu c k) 4 0 (mxG (fun k => gL (lay mu (c + 2)) 4 (mbrF (lay mu (c + 2)) 48 k - 16)) (gL (lay mu (c + 2)) 2 48).toNat 0 (mxG (fun k => gL (lay mu (c + 2)) 4 (tnF (pl mu p) k - 16)) (mu p 9 - mu p 10).toNat 0
    (mzG mu c p (mu c 2).toNat 0 (mpG mu c p (mu c 2).toNat 0 (mxG (fun k => whF mu c p k) 12 0 (mx (mx 43151 (mu h 1)) (mu t 2)))))))
section D7
variable {G : Gx} {l : Launch} {S : Sh} {n : Nat} {mu : Mem} {la : Lam} {a c h t p b q : Nat}
set_option maxRecDepth 20000 in
theorem ggX8_mixPanes_X8_pane : GoodIn wsX8_mixPanes wsX8_pane := goodIn_ca (goodIn_ca (goodIn_ca (goodIn_r _ [7, 1, 8, 9, 10, 6, 11, 12, 13, 14, 15, 16, 17, 18, 19, 20, 21, 22, 23, 24, 25, 26, 27, 28, 29, 30, 31, 32, 33, 34, 35, 36, 37, 38, 39, 40, 41, 42, 43, 44, 45, 46, 47, 48, 49, 50, 51, 52, 53, 54, 55, 56, 57, 58, 59, 60, 61, 62, 63, 64, 65, 66, 67, 68, 69, 70, 71, 72, 73, 74, 75, 76, 77, 78, 79, 80, 81, 82, 83, 84, 85, 86, 87, 88, 89, 90, 91, 92, 93, 94, 106, 107, 108, 109, 110, 111, 112, 113, 114, 115, 116, 117, 118, 119, 120, 121, 122, 123, 124, 125, 126, 127, 128, 129, 130, 131, 132, 133, 134, 135, 136, 137, 138, 139] (by decide +kernel) (by decide +kernel)) (goodIn_sub (fun _ h => List.mem_cons_of_mem _ (List.mem_append_left _ (List.mem_append_left _ (List.mem_append_right _ h)))) (by decide +kernel))) (goodIn_sub (fun _ h => List.mem_cons_of_mem _ (List.mem_append_left _ (List.mem_append_right _ h))) (by decide +kernel))) (goodIn_sub (fun _ h => List.mem_cons_of_mem _ (List.mem_append_right _ h)) (by decide +kernel))
set_option maxRecDepth 20000 in
theorem gX8_mixPanes_X8_pane : GoodIn wsX8_mixPanes (wsV RX8 334 RX8 yX8_pane wsX8_pane) := goodIn_app (goodIn_of _ (by decide +kernel)) ggX8_mixPanes_X8_pane
set_option maxRecDepth 20000 in
theorem ggX8_mixPanes_X8_tab : GoodIn wsX8_mixPanes wsX8_tab := goodIn_ca (goodIn_ca (goodIn_ca (goodIn_r _ [98, 1, 8, 9, 10, 6, 11, 99, 100, 101, 15, 16, 17, 18, 19, 20, 21, 22, 23, 38, 39, 40, 35, 41, 37, 30, 31, 102, 103, 104, 105, 76, 106, 107, 108, 109, 110, 111, 112, 113, 114, 115, 116, 117, 118, 119, 120, 121, 122, 123, 124, 125, 126] (by decide +kernel) (by decide +kernel)) (goodIn_sub (fun _ h => List.mem_cons_of_mem _ (List.mem_append_left _ (List.mem_append_left _ (List.mem_append_right _ h)))) (by decide +kernel))) (goodIn_sub (fun _ h => List.mem_cons_of_mem _ (List.mem_append_left _ (List.mem_append_right _ h))) (by decide +kernel))) (goodIn_sub (fun _ h => List.mem_cons_of_mem _ (List.mem_append_right _ h)) (by decide +kernel))
set_option maxRecDepth 20000 in
theorem gX8_mixPanes_X8_tab : GoodIn wsX8_mixPanes (wsV RX8 337 RX8 yX8_tab wsX8_tab) := goodIn_app (goodIn_of _ (by decide +kernel)) ggX8_mixPanes_X8_tab
theorem dX8_mixPanes_0 : decode cX8_mixPanes 0 = .ok (.lload_n 1, 1) := by decide +kernel
theorem dX8_mixPanes_1 : decode cX8_mixPanes 1 = .ok (.lstore_n 3, 1) := by decide +kernel
theorem dX8_mixPanes_2 : decode cX8_mixPanes 2 = .ok (.iconst 0, 1) := by decide +kernel
theorem dX8_mixPanes_3 : decode cX8_mixPanes 3 = .ok (.istore 5, 2) := by decide +kernel
theorem dX8_mixPanes_5 : decode cX8_mixPanes 5 = .ok (.iload 5, 2) := by decide +kernel
theorem dX8_mixPanes_7 : decode cX8_mixPanes 7 = .ok (.aload_n 0, 1) := by decide +kernel
theorem dX8_mixPanes_8 : decode cX8_mixPanes 8 = .ok (.getfield 12, 3) := by decide +kernel
theorem dX8_mixPanes_11 : decode cX8_mixPanes 11 = .ok (.getfield 76, 3) := by decide +kernel
theorem dX8_mixPanes_14 : decode cX8_mixPanes 14 = .ok (.if_icmp .ge 71, 3) := by decide +kernel
theorem dX8_mixPanes_17 : decode cX8_mixPanes 17 = .ok (.iconst 0, 1) := by decide +kernel
theorem dX8_mixPanes_18 : decode cX8_mixPanes 18 = .ok (.istore 6, 2) := by decide +kernel
theorem dX8_mixPanes_20 : decode cX8_mixPanes 20 = .ok (.iload 6, 2) := by decide +kernel
theorem dX8_mixPanes_22 : decode cX8_mixPanes 22 = .ok (.bipush 11, 2) := by decide +kernel
theorem dX8_mixPanes_24 : decode cX8_mixPanes 24 = .ok (.if_icmp .gt 25, 3) := by decide +kernel
theorem dX8_mixPanes_27 : decode cX8_mixPanes 27 = .ok (.ldc2_w 299, 3) := by decide +kernel
theorem dX8_mixPanes_30 : decode cX8_mixPanes 30 = .ok (.lload_n 3, 1) := by decide +kernel
theorem dX8_mixPanes_31 : decode cX8_mixPanes 31 = .ok (.lmul, 1) := by decide +kernel
theorem dX8_mixPanes_32 : decode cX8_mixPanes 32 = .ok (.aload_n 0, 1) := by decide +kernel
theorem dX8_mixPanes_33 : decode cX8_mixPanes 33 = .ok (.iload 5, 2) := by decide +kernel
theorem dX8_mixPanes_35 : decode cX8_mixPanes 35 = .ok (.iload 6, 2) := by decide +kernel
theorem dX8_mixPanes_37 : decode cX8_mixPanes 37 = .ok (.invokevirtual 334, 3) := by decide +kernel
theorem dX8_mixPanes_40 : decode cX8_mixPanes 40 = .ok (.i2l, 1) := by decide +kernel
theorem dX8_mixPanes_41 : decode cX8_mixPanes 41 = .ok (.ladd, 1) := by decide +kernel
theorem dX8_mixPanes_42 : decode cX8_mixPanes 42 = .ok (.lstore_n 3, 1) := by decide +kernel
theorem dX8_mixPanes_43 : decode cX8_mixPanes 43 = .ok (.iinc 6 1, 3) := by decide +kernel
theorem dX8_mixPanes_46 : decode cX8_mixPanes 46 = .ok (.goto (-26), 3) := by decide +kernel
theorem dX8_mixPanes_49 : decode cX8_mixPanes 49 = .ok (.ldc2_w 299, 3) := by decide +kernel
theorem dX8_mixPanes_52 : decode cX8_mixPanes 52 = .ok (.lload_n 3, 1) := by decide +kernel
theorem dX8_mixPanes_53 : decode cX8_mixPanes 53 = .ok (.lmul, 1) := by decide +kernel
theorem dX8_mixPanes_54 : decode cX8_mixPanes 54 = .ok (.aload_n 0, 1) := by decide +kernel
theorem dX8_mixPanes_55 : decode cX8_mixPanes 55 = .ok (.iload 5, 2) := by decide +kernel
theorem dX8_mixPanes_57 : decode cX8_mixPanes 57 = .ok (.iconst 0, 1) := by decide +kernel
theorem dX8_mixPanes_58 : decode cX8_mixPanes 58 = .ok (.invokevirtual 337, 3) := by decide +kernel
theorem dX8_mixPanes_61 : decode cX8_mixPanes 61 = .ok (.i2l, 1) := by decide +kernel
theorem dX8_mixPanes_62 : decode cX8_mixPanes 62 = .ok (.ladd, 1) := by decide +kernel
theorem dX8_mixPanes_63 : decode cX8_mixPanes 63 = .ok (.lstore_n 3, 1) := by decide +kernel
theorem dX8_mixPanes_64 : decode cX8_mixPanes 64 = .ok (.ldc2_w 299, 3) := by decide +kernel
theorem dX8_mixPanes_67 : decode cX8_mixPanes 67 = .ok (.lload_n 3, 1) := by decide +kernel
theorem dX8_mixPanes_68 : decode cX8_mixPanes 68 = .ok (.lmul, 1) := by decide +kernel
theorem dX8_mixPanes_69 : decode cX8_mixPanes 69 = .ok (.aload_n 0, 1) := by decide +kernel
theorem dX8_mixPanes_70 : decode cX8_mixPanes 70 = .ok (.iload 5, 2) := by decide +kernel
theorem dX8_mixPanes_72 : decode cX8_mixPanes 72 = .ok (.iconst 1, 1) := by decide +kernel
theorem dX8_mixPanes_73 : decode cX8_mixPanes 73 = .ok (.invokevirtual 337, 3) := by decide +kernel
theorem dX8_mixPanes_76 : decode cX8_mixPanes 76 = .ok (.i2l, 1) := by decide +kernel
theorem dX8_mixPanes_77 : decode cX8_mixPanes 77 = .ok (.ladd, 1) := by decide +kernel
theorem dX8_mixPanes_78 : decode cX8_mixPanes 78 = .ok (.lstore_n 3, 1) := by decide +kernel
theorem dX8_mixPanes_79 : decode cX8_mixPanes 79 = .ok (.iinc 5 1, 3) := by decide +kernel
theorem dX8_mixPanes_82 : decode cX8_mixPanes 82 = .ok (.goto (-77), 3) := by decide +kernel
theorem dX8_mixPanes_85 : decode cX8_mixPanes 85 = .ok (.lload_n 3, 1) := by decide +kernel
theorem dX8_mixPanes_86 : decode cX8_mixPanes 86 = .ok (.lreturn, 1) := by decide +kernel
theorem hin_X8_mixPanes_X8 : ∀ w ∈ wsX80, w ∈ wsX8_mixPanes := by decide +kernel
theorem lk_X8_mixPanes_12 : Cond.fieldLink RX8 12 RX8 "now" "LDockTree$State;" ∈ wsX8_mixPanes := by decide +kernel
theorem hin_X8_mixPanes_X7 : ∀ w ∈ wsX70, w ∈ wsX8_mixPanes := by decide +kernel
theorem k_mixPanes (hG : GP G) (hD : DoS S a c h t p b q) (hW : Wo mu c h t p) {g : Int64} : Ct G l yX8_mixPanes wsX8_mixPanes 5 0 0 [.ref a, .long g] S n mu la (Dt (some (.long (mpG mu c p (mu c 2).toNat 0 g))) S n mu la) := by
  have o8 := hD.1
  have o7 := hD.2.1.1
  have hn := hW.2.2.1
  generalize eR : mpG mu c p (mu c 2).toNat 0 g = R
  refine Ct.ofV (cc := cX8_mixPanes) (nL := 7) (ret := (some .long)) [some (.ref a), some (.long g), none, none, none, none, none] hG (by decide) rfl (Nat.le_of_ble_eq_true rfl) rfl ?_
  rintro X rfl rfl C hcl hsl E
  have loop : ∀ (d : Nat) (x : Int) (g9 : Int64) (w6 : Option Value), x + d = mu c 2 → 0 ≤ x → mpG mu c p d x g9 = R → V X 5 [some (.ref a), some (.long g), none, some (.long g9), none, some (.int (I32 x)), w6] [] S n mu la 0 0 := by
    intro d
    induction d with
    | zero =>
      intro x g9 w6 h1 h2 h3
      have h3 : R = g9 := h3.symm
      subst h3
      refine V_iload C dX8_mixPanes_5 rfl ?_
      refine V_aload_n C dX8_mixPanes_7 rfl ?_
      refine V_getR C 0 dX8_mixPanes_8 o8 rfl hin_X8_mixPanes_X8 (by decide) lk_X8_mixPanes_12 rfl rfl ?_
      refine V_getNJ C 2 2 rfl (host := "DockTree") dX8_mixPanes_11 o7 rfl hin_X8_mixPanes_X7 (by decide) (by decide +kernel) rfl rfl rfl ?_
      refine V_icmp_ge C 85 dX8_mixPanes_14 (by decide) (by omega) (by omega) (fun z => ?_) (fun z => ?_)
      · refine V_lload_n C dX8_mixPanes_85 rfl ?_
        refine V_lreturn C E dX8_mixPanes_86 (by omega) (by omega) ?_
        exact Dt_rfl
      · exact absurd z (by omega)
    | succ d ih =>
      intro x g9 w6 h1 h2 h3
      have hp1 : pnF mu c x = 1 := by unfold pnF; rw [if_pos (by omega)]
      rw [mpG, mxP] at h3
      have inner : ∀ (e : Nat) (w : Int) (g8 : Int64), w + e = 12 → 0 ≤ w → mxG (fun w => paF mu c p x w) e w g8 = mxG (fun w => paF mu c p x w) 12 0 g9 → V X 20 [some (.ref a), some (.long g), none, some (.long g8), none, some (.int (I32 x)), some (.int (I32 w))] [] S n mu la 0 0 := by
        intro e
        induction e with
        | zero =>
          intro w g8 k1 k2 k3
          rw [← k3] at h3
          refine V_iload C dX8_mixPanes_20 rfl ?_
          refine V_bipush C dX8_mixPanes_22 (by decide +kernel) ?_
          refine V_icmp_gt C 49 dX8_mixPanes_24 (by decide) (by omega) (by omega) (fun z => ?_) (fun z => ?_)
          · refine V_ldc2 C (v := 31) dX8_mixPanes_49 (by decide +kernel) ?_
            refine V_lload_n C dX8_mixPanes_52 rfl ?_
            refine V_lmul C dX8_mixPanes_53 ?_
            refine V_aload_n C dX8_mixPanes_54 rfl ?_
            refine V_iload C dX8_mixPanes_55 rfl ?_
            refine V_iconst C dX8_mixPanes_57 ?_
            refine V_callVD (nA := 2) C dX8_mixPanes_58 (k_tab C.gp hD hW (by omega) (by omega) (by unfold ftbF fiF; rw [if_pos hp1]; rfl)) gX8_mixPanes_X8_tab rfl o8 rfl (by decide +kernel) rfl (by decide) (by decide) (Nat.le_of_ble_eq_true rfl) ⟨by omega, by omega⟩ rfl ?_
            refine V_i2l C dX8_mixPanes_61 ?_
            refine V_ladd C dX8_mixPanes_62 ?_
            refine V_lstore_n C dX8_mixPanes_63 rfl (by decide) ?_
            refine V_ldc2 C (v := 31) dX8_mixPanes_64 (by decide +kernel) ?_
            refine V_lload_n C dX8_mixPanes_67 rfl ?_
            refine V_lmul C dX8_mixPanes_68 ?_
            refine V_aload_n C dX8_mixPanes_69 rfl ?_
            refine V_iload C dX8_mixPanes_70 rfl ?_
            refine V_iconst C dX8_mixPanes_72 ?_
            refine V_callVD (nA := 2) C dX8_mixPanes_73 (k_tab C.gp hD hW (by omega) (by omega) (by unfold ftbF fiF; rw [if_pos hp1]; rfl)) gX8_mixPanes_X8_tab rfl o8 rfl (by decide +kernel) rfl (by decide) (by decide) (Nat.le_of_ble_eq_true rfl) ⟨by omega, by omega⟩ rfl ?_
            refine V_i2l C dX8_mixPanes_76 ?_
            refine V_ladd C dX8_mixPanes_77 ?_
            refine V_lstore_n C dX8_mixPanes_78 rfl (by decide) ?_
            refine V_iinc C dX8_mixPanes_79 rfl rfl (by decide) ?_
            refine V_goto C 5 dX8_mixPanes_82 (by decide) ?_
            exact ih (x + 1) _ _ (by omega) (by omega) h3
          · exact absurd z (by omega)
        | succ e ihe =>
          intro w g8 k1 k2 k3
          rw [mxG] at k3
          refine V_iload C dX8_mixPanes_20 rfl ?_
          refine V_bipush C dX8_mixPanes_22 (by decide +kernel) ?_
          refine V_icmp_gt C 49 dX8_mixPanes_24 (by decide) (by omega) (by omega) (fun z => ?_) (fun z => ?_)
          · exact absurd z (by omega)
          · refine V_ldc2 C (v := 31) dX8_mixPanes_27 (by decide +kernel) ?_
            refine V_lload_n C dX8_mixPanes_30 rfl ?_
            refine V_lmul C dX8_mixPanes_31 ?_
            refine V_aload_n C dX8_mixPanes_32 rfl ?_
            refine V_iload C dX8_mixPanes_33 rfl ?_
            refine V_iload C dX8_mixPanes_35 rfl ?_
            refine V_callVD (nA := 2) C dX8_mixPanes_37 (k_pane C.gp hD hW (by omega) (by omega) (by unfold ppF frF; rw [if_pos hp1, if_pos (by omega)])) gX8_mixPanes_X8_pane rfl o8 rfl (by decide +kernel) rfl (by decide) (by decide) (Nat.le_of_ble_eq_true rfl) ⟨by omega, by omega⟩ rfl ?_
            refine V_i2l C dX8_mixPanes_40 ?_
            refine V_ladd C dX8_mixPanes_41 ?_
            refine V_lstore_n C dX8_mixPanes_42 rfl (by decide) ?_
            refine V_iinc C dX8_mixPanes_43 rfl rfl (by decide) ?_
            refine V_goto C 20 dX8_mixPanes_46 (by decide) ?_
            exact ihe (w + 1) _ (by omega) (by omega) k3
      refine V_iload C dX8_mixPanes_5 rfl ?_
      refine V_aload_n C dX8_mixPanes_7 rfl ?_
      refine V_getR C 0 dX8_mixPanes_8 o8 rfl hin_X8_mixPanes_X8 (by decide) lk_X8_mixPanes_12 rfl rfl ?_
      refine V_getNJ C 2 2 rfl (host := "DockTree") dX8_mixPanes_11 o7 rfl hin_X8_mixPanes_X7 (by decide) (by decide +kernel) rfl rfl rfl ?_
      refine V_icmp_ge C 85 dX8_mixPanes_14 (by decide) (by omega) (by omega) (fun z => ?_) (fun z => ?_)
      · exact absurd z (by omega)
      · refine V_iconst C dX8_mixPanes_17 ?_
        refine V_istore C dX8_mixPanes_18 rfl (by decide) ?_
        exact inner 12 0 g9 (by omega) (by omega) rfl
  refine V_lload_n C dX8_mixPanes_0 rfl ?_
  refine V_lstore_n C dX8_mixPanes_1 rfl (by decide) ?_
  refine V_iconst C dX8_mixPanes_2 ?_
  refine V_istore C dX8_mixPanes_3 rfl (by decide) ?_
  exact loop (mu c 2).toNat 0 g _ (by omega) (by omega) eR
set_option maxRecDepth 20000 in
theorem ggX8_mixSplits_X4_stateOf : GoodIn wsX8_mixSplits wsX4_stateOf := goodIn_r _ [8, 9, 10, 11, 12, 96, 97, 98, 99, 100, 101, 102, 103] (by decide +kernel) (by decide +kernel)
set_option maxRecDepth 20000 in
theorem gX8_mixSplits_X4_stateOf : GoodIn wsX8_mixSplits (wsV RX8 137 RX4 yX4_stateOf wsX4_stateOf) := goodIn_app (goodIn_of _ (by decide +kernel)) ggX8_mixSplits_X4_stateOf
set_option maxRecDepth 20000 in
theorem ggX8_mixSplits_X4_holderOf : GoodIn wsX8_mixSplits wsX4_holderOf := goodIn_r _ [16, 9, 10, 11, 12, 96, 97, 98, 99, 100, 101, 102, 103] (by decide +kernel) (by decide +kernel)
set_option maxRecDepth 20000 in
theorem gX8_mixSplits_X4_holderOf : GoodIn wsX8_mixSplits (wsV RX8 103 RX4 yX4_holderOf wsX4_holderOf) := goodIn_app (goodIn_of _ (by decide +kernel)) ggX8_mixSplits_X4_holderOf
set_option maxRecDepth 20000 in
theorem ggX8_mixSplits_X5_depthOf : GoodIn wsX8_mixSplits wsX5_depthOf := goodIn_r _ [21, 22, 10, 11, 12, 104, 105, 106, 107, 108, 109, 110, 111, 112, 113, 114, 115, 116] (by decide +kernel) (by decide +kernel)
set_option maxRecDepth 20000 in
theorem gX8_mixSplits_X5_depthOf : GoodIn wsX8_mixSplits (wsV RX8 327 RX5 yX5_depthOf wsX5_depthOf) := goodIn_app (goodIn_of _ (by decide +kernel)) ggX8_mixSplits_X5_depthOf
set_option maxRecDepth 20000 in
theorem ggX8_mixSplits_X8_split : GoodIn wsX8_mixSplits wsX8_split := goodIn_ca (goodIn_ca (goodIn_ca (goodIn_r _ [26, 1, 27, 28, 29, 11, 30, 31, 32, 33, 34, 35, 36, 37, 38, 39, 40, 41, 42, 43, 44, 45, 13, 14, 15, 7, 16, 9, 10, 12, 46, 47, 48, 49, 50, 51, 52, 2, 53, 54, 55, 56, 57, 58, 59, 60, 61, 62, 63, 64, 65, 66, 67, 68, 69, 70, 20, 71, 72, 73, 74, 75, 76, 77, 78, 79, 80, 81, 82, 83, 84, 85, 86, 87, 88, 89, 90, 91, 92, 93, 94, 95, 96, 97, 98, 99, 100, 101, 102, 103, 104, 105, 106, 107, 108, 109, 110, 111, 112, 113, 114, 115, 116] (by decide +kernel) (by decide +kernel)) (goodIn_sub (fun _ h => List.mem_cons_of_mem _ (List.mem_append_left _ (List.mem_append_left _ (List.mem_append_right _ h)))) (by decide +kernel))) (goodIn_sub (fun _ h => List.mem_cons_of_mem _ (List.mem_append_left _ (List.mem_append_right _ h))) (by decide +kernel))) (goodIn_sub (fun _ h => List.mem_cons_of_mem _ (List.mem_append_right _ h)) (by decide +kernel))
set_option maxRecDepth 20000 in
theorem gX8_mixSplits_X8_split : GoodIn wsX8_mixSplits (wsV RX8 340 RX8 yX8_split wsX8_split) := goodIn_app (goodIn_of _ (by decide +kernel)) ggX8_mixSplits_X8_split
theorem dX8_mixSplits_0 : decode cX8_mixSplits 0 = .ok (.lload_n 1, 1) := by decide +kernel
theorem dX8_mixSplits_1 : decode cX8_mixSplits 1 = .ok (.lstore_n 3, 1) := by decide +kernel
theorem dX8_mixSplits_2 : decode cX8_mixSplits 2 = .ok (.iconst 0, 1) := by decide +kernel
theorem dX8_mixSplits_3 : decode cX8_mixSplits 3 = .ok (.istore 5, 2) := by decide +kernel
theorem dX8_mixSplits_5 : decode cX8_mixSplits 5 = .ok (.iload 5, 2) := by decide +kernel
theorem dX8_mixSplits_7 : decode cX8_mixSplits 7 = .ok (.aload_n 0, 1) := by decide +kernel
theorem dX8_mixSplits_8 : decode cX8_mixSplits 8 = .ok (.getfield 12, 3) := by decide +kernel
theorem dX8_mixSplits_11 : decode cX8_mixSplits 11 = .ok (.getfield 76, 3) := by decide +kernel
theorem dX8_mixSplits_14 : decode cX8_mixSplits 14 = .ok (.if_icmp .ge 99, 3) := by decide +kernel
theorem dX8_mixSplits_17 : decode cX8_mixSplits 17 = .ok (.aload_n 0, 1) := by decide +kernel
theorem dX8_mixSplits_18 : decode cX8_mixSplits 18 = .ok (.getfield 12, 3) := by decide +kernel
theorem dX8_mixSplits_21 : decode cX8_mixSplits 21 = .ok (.getfield 97, 3) := by decide +kernel
theorem dX8_mixSplits_24 : decode cX8_mixSplits 24 = .ok (.iload 5, 2) := by decide +kernel
theorem dX8_mixSplits_26 : decode cX8_mixSplits 26 = .ok (.invokevirtual 137, 3) := by decide +kernel
theorem dX8_mixSplits_29 : decode cX8_mixSplits 29 = .ok (.ifCond .ne 7, 3) := by decide +kernel
theorem dX8_mixSplits_32 : decode cX8_mixSplits 32 = .ok (.iconst 0, 1) := by decide +kernel
theorem dX8_mixSplits_33 : decode cX8_mixSplits 33 = .ok (.goto 22, 3) := by decide +kernel
theorem dX8_mixSplits_36 : decode cX8_mixSplits 36 = .ok (.aload_n 0, 1) := by decide +kernel
theorem dX8_mixSplits_37 : decode cX8_mixSplits 37 = .ok (.getfield 33, 3) := by decide +kernel
theorem dX8_mixSplits_40 : decode cX8_mixSplits 40 = .ok (.aload_n 0, 1) := by decide +kernel
theorem dX8_mixSplits_41 : decode cX8_mixSplits 41 = .ok (.getfield 12, 3) := by decide +kernel
theorem dX8_mixSplits_44 : decode cX8_mixSplits 44 = .ok (.getfield 97, 3) := by decide +kernel
theorem dX8_mixSplits_47 : decode cX8_mixSplits 47 = .ok (.iload 5, 2) := by decide +kernel
theorem dX8_mixSplits_49 : decode cX8_mixSplits 49 = .ok (.invokevirtual 103, 3) := by decide +kernel
theorem dX8_mixSplits_52 : decode cX8_mixSplits 52 = .ok (.invokevirtual 327, 3) := by decide +kernel
theorem dX8_mixSplits_55 : decode cX8_mixSplits 55 = .ok (.istore 6, 2) := by decide +kernel
theorem dX8_mixSplits_57 : decode cX8_mixSplits 57 = .ok (.iconst 0, 1) := by decide +kernel
theorem dX8_mixSplits_58 : decode cX8_mixSplits 58 = .ok (.istore 7, 2) := by decide +kernel
theorem dX8_mixSplits_60 : decode cX8_mixSplits 60 = .ok (.iload 7, 2) := by decide +kernel
theorem dX8_mixSplits_62 : decode cX8_mixSplits 62 = .ok (.iload 6, 2) := by decide +kernel
theorem dX8_mixSplits_64 : decode cX8_mixSplits 64 = .ok (.if_icmp .ge 43, 3) := by decide +kernel
theorem dX8_mixSplits_67 : decode cX8_mixSplits 67 = .ok (.iconst 0, 1) := by decide +kernel
theorem dX8_mixSplits_68 : decode cX8_mixSplits 68 = .ok (.istore 8, 2) := by decide +kernel
theorem dX8_mixSplits_70 : decode cX8_mixSplits 70 = .ok (.iload 8, 2) := by decide +kernel
theorem dX8_mixSplits_72 : decode cX8_mixSplits 72 = .ok (.bipush 7, 2) := by decide +kernel
theorem dX8_mixSplits_74 : decode cX8_mixSplits 74 = .ok (.if_icmp .gt 27, 3) := by decide +kernel
theorem dX8_mixSplits_77 : decode cX8_mixSplits 77 = .ok (.ldc2_w 299, 3) := by decide +kernel
theorem dX8_mixSplits_80 : decode cX8_mixSplits 80 = .ok (.lload_n 3, 1) := by decide +kernel
theorem dX8_mixSplits_81 : decode cX8_mixSplits 81 = .ok (.lmul, 1) := by decide +kernel
theorem dX8_mixSplits_82 : decode cX8_mixSplits 82 = .ok (.aload_n 0, 1) := by decide +kernel
theorem dX8_mixSplits_83 : decode cX8_mixSplits 83 = .ok (.iload 5, 2) := by decide +kernel
theorem dX8_mixSplits_85 : decode cX8_mixSplits 85 = .ok (.iload 7, 2) := by decide +kernel
theorem dX8_mixSplits_87 : decode cX8_mixSplits 87 = .ok (.iload 8, 2) := by decide +kernel
theorem dX8_mixSplits_89 : decode cX8_mixSplits 89 = .ok (.invokevirtual 340, 3) := by decide +kernel
theorem dX8_mixSplits_92 : decode cX8_mixSplits 92 = .ok (.i2l, 1) := by decide +kernel
theorem dX8_mixSplits_93 : decode cX8_mixSplits 93 = .ok (.ladd, 1) := by decide +kernel
theorem dX8_mixSplits_94 : decode cX8_mixSplits 94 = .ok (.lstore_n 3, 1) := by decide +kernel
theorem dX8_mixSplits_95 : decode cX8_mixSplits 95 = .ok (.iinc 8 1, 3) := by decide +kernel
theorem dX8_mixSplits_98 : decode cX8_mixSplits 98 = .ok (.goto (-28), 3) := by decide +kernel
theorem dX8_mixSplits_101 : decode cX8_mixSplits 101 = .ok (.iinc 7 1, 3) := by decide +kernel
theorem dX8_mixSplits_104 : decode cX8_mixSplits 104 = .ok (.goto (-44), 3) := by decide +kernel
theorem dX8_mixSplits_107 : decode cX8_mixSplits 107 = .ok (.iinc 5 1, 3) := by decide +kernel
theorem dX8_mixSplits_110 : decode cX8_mixSplits 110 = .ok (.goto (-105), 3) := by decide +kernel
theorem dX8_mixSplits_113 : decode cX8_mixSplits 113 = .ok (.lload_n 3, 1) := by decide +kernel
theorem dX8_mixSplits_114 : decode cX8_mixSplits 114 = .ok (.lreturn, 1) := by decide +kernel
theorem hin_X8_mixSplits_X8 : ∀ w ∈ wsX80, w ∈ wsX8_mixSplits := by decide +kernel
theorem lk_X8_mixSplits_12 : Cond.fieldLink RX8 12 RX8 "now" "LDockTree$State;" ∈ wsX8_mixSplits := by decide +kernel
theorem hin_X8_mixSplits_X7 : ∀ w ∈ wsX70, w ∈ wsX8_mixSplits := by decide +kernel
theorem lk_X8_mixSplits_33 : Cond.fieldLink RX8 33 RX8 "plan" "LDockTree$Plan;" ∈ wsX8_mixSplits := by decide +kernel
theorem k_mixSplits (hG : GP G) (hD : DoS S a c h t p b q) (hW : Wo mu c h t p) {g : Int64} : Ct G l yX8_mixSplits wsX8_mixSplits 5 0 0 [.ref a, .long g] S n mu la (Dt (some (.long (mzG mu c p (mu c 2).toNat 0 g))) S n mu la) := by
  have o8 := hD.1
  have o7 := hD.2.1.1
  have o5 := hD.2.2.2.2.1.1
  have o4 := hD.2.1.2.2.1.1
  have hn := hW.2.2.1
  have hL := hD.2.1.2.2.1
  generalize eR : mzG mu c p (mu c 2).toNat 0 g = R
  refine Ct.ofV (cc := cX8_mixSplits) (nL := 9) (ret := (some .long)) [some (.ref a), some (.long g), none, none, none, none, none, none, none] hG (by decide) rfl (Nat.le_of_ble_eq_true rfl) rfl ?_
  rintro X rfl rfl C hcl hsl E
  have loop : ∀ (d : Nat) (x : Int) (g9 : Int64) (w6 w7 w8 : Option Value), x + d = mu c 2 → 0 ≤ x → mzG mu c p d x g9 = R → V X 5 [some (.ref a), some (.long g), none, some (.long g9), none, some (.int (I32 x)), w6, w7, w8] [] S n mu la 0 0 := by
    intro d
    induction d with
    | zero =>
      intro x g9 w6 w7 w8 h1 h2 h3
      have h3 : R = g9 := h3.symm
      subst h3
      refine V_iload C dX8_mixSplits_5 rfl ?_
      refine V_aload_n C dX8_mixSplits_7 rfl ?_
      refine V_getR C 0 dX8_mixSplits_8 o8 rfl hin_X8_mixSplits_X8 (by decide) lk_X8_mixSplits_12 rfl rfl ?_
      refine V_getNJ C 2 2 rfl (host := "DockTree") dX8_mixSplits_11 o7 rfl hin_X8_mixSplits_X7 (by decide) (by decide +kernel) rfl rfl rfl ?_
      refine V_icmp_ge C 113 dX8_mixSplits_14 (by decide) (by omega) (by omega) (fun z => ?_) (fun z => ?_)
      · refine V_lload_n C dX8_mixSplits_113 rfl ?_
        refine V_lreturn C E dX8_mixSplits_114 (by omega) (by omega) ?_
        exact Dt_rfl
      · exact absurd z (by omega)
    | succ d ih =>
      intro x g9 w6 w7 w8 h1 h2 h3
      have hp1 : pnF mu c x = 1 := by unfold pnF; rw [if_pos (by omega)]
      have bs := stt_b (lay mu (c + 2)) x
      rw [mzG] at h3
      have bd : -2147483648 ≤ dpF mu c p x ∧ dpF mu c p x ≤ 2147483647 := by
        unfold dpF
        split
        · omega
        · exact R32_gK (pl_R hW.1 p) _ _ _
      have levels : ∀ (e : Nat) (v : Int) (g8 : Int64) (w8 : Option Value), (v + e = dpF mu c p x ∨ (e = 0 ∧ dpF mu c p x ≤ v ∧ v ≤ 0)) → 0 ≤ v → msL mu c p x e v g8 = msL mu c p x (dpF mu c p x).toNat 0 g9 → V X 60 [some (.ref a), some (.long g), none, some (.long g8), none, some (.int (I32 x)), some (.int (I32 (dpF mu c p x))), some (.int (I32 v)), w8] [] S n mu la 0 0 := by
        intro e
        induction e with
        | zero =>
          intro v g8 w8 k1 k2 k3
          rw [← k3] at h3
          refine V_iload C dX8_mixSplits_60 rfl ?_
          refine V_iload C dX8_mixSplits_62 rfl ?_
          refine V_icmp_ge C 107 dX8_mixSplits_64 (by decide) (by omega) (by omega) (fun z => ?_) (fun z => ?_)
          · refine V_iinc C dX8_mixSplits_107 rfl rfl (by decide) ?_
            refine V_goto C 5 dX8_mixSplits_110 (by decide) ?_
            exact ih (x + 1) _ _ _ _ (by omega) (by omega) h3
          · exact absurd z (by omega)
        | succ e ihe =>
          intro v g8 w8 k1 k2 k3
          rw [msL] at k3
          have inner : ∀ (m : Nat) (w : Int) (g7 : Int64), w + m = 8 → 0 ≤ w → mxG (fun w => spvF (lay mu (c + 2)) (pl mu p) x v w) m w g7 = mxG (fun w => spvF (lay mu (c + 2)) (pl mu p) x v w) 8 0 g8 → V X 70 [some (.ref a), some (.long g), none, some (.long g7), none, some (.int (I32 x)), some (.int (I32 (dpF mu c p x))), some (.int (I32 v)), some (.int (I32 w))] [] S n mu la 0 0 := by
            intro m
            induction m with
            | zero =>
              intro w g7 q1 q2 q3
              rw [← q3] at k3
              refine V_iload C dX8_mixSplits_70 rfl ?_
              refine V_bipush C dX8_mixSplits_72 (by decide +kernel) ?_
              refine V_icmp_gt C 101 dX8_mixSplits_74 (by decide) (by omega) (by omega) (fun z => ?_) (fun z => ?_)
              · refine V_iinc C dX8_mixSplits_101 rfl rfl (by decide) ?_
                refine V_goto C 60 dX8_mixSplits_104 (by decide) ?_
                exact ihe (v + 1) _ _ (by omega) (by omega) k3
              · exact absurd z (by omega)
            | succ m ihm =>
              intro w g7 q1 q2 q3
              rw [mxG] at q3
              refine V_iload C dX8_mixSplits_70 rfl ?_
              refine V_bipush C dX8_mixSplits_72 (by decide +kernel) ?_
              refine V_icmp_gt C 101 dX8_mixSplits_74 (by decide) (by omega) (by omega) (fun z => ?_) (fun z => ?_)
              · exact absurd z (by omega)
              · refine V_ldc2 C (v := 31) dX8_mixSplits_77 (by decide +kernel) ?_
                refine V_lload_n C dX8_mixSplits_80 rfl ?_
                refine V_lmul C dX8_mixSplits_81 ?_
                refine V_aload_n C dX8_mixSplits_82 rfl ?_
                refine V_iload C dX8_mixSplits_83 rfl ?_
                refine V_iload C dX8_mixSplits_85 rfl ?_
                refine V_iload C dX8_mixSplits_87 rfl ?_
                refine V_callVD (nA := 3) C dX8_mixSplits_89 (k_split C.gp hD hW (by omega) (by omega) (by omega) (by unfold fspF fsF; rw [if_pos hp1, if_pos (by omega)])) gX8_mixSplits_X8_split rfl o8 rfl (by decide +kernel) rfl (by decide) (by decide) (Nat.le_of_ble_eq_true rfl) ⟨by omega, by omega⟩ rfl ?_
                refine V_i2l C dX8_mixSplits_92 ?_
                refine V_ladd C dX8_mixSplits_93 ?_
                refine V_lstore_n C dX8_mixSplits_94 rfl (by decide) ?_
                refine V_iinc C dX8_mixSplits_95 rfl rfl (by decide) ?_
                refine V_goto C 70 dX8_mixSplits_98 (by decide) ?_
                exact ihm (w + 1) _ (by omega) (by omega) q3
          refine V_iload C dX8_mixSplits_60 rfl ?_
          refine V_iload C dX8_mixSplits_62 rfl ?_
          refine V_icmp_ge C 107 dX8_mixSplits_64 (by decide) (by omega) (by omega) (fun z => ?_) (fun z => ?_)
          · exact absurd z (by omega)
          · refine V_iconst C dX8_mixSplits_67 ?_
            refine V_istore C dX8_mixSplits_68 rfl (by decide) ?_
            exact inner 8 0 g8 (by omega) (by omega) rfl
      have go : V X 55 [some (.ref a), some (.long g), none, some (.long g9), none, some (.int (I32 x)), w6, w7, w8] [.int (I32 (dpF mu c p x))] S n mu la 0 0 := by
        refine V_istore C dX8_mixSplits_55 rfl (by decide) ?_
        refine V_iconst C dX8_mixSplits_57 ?_
        refine V_istore C dX8_mixSplits_58 rfl (by decide) ?_
        exact levels (dpF mu c p x).toNat 0 g9 _ (by omega) (by omega) rfl
      refine V_iload C dX8_mixSplits_5 rfl ?_
      refine V_aload_n C dX8_mixSplits_7 rfl ?_
      refine V_getR C 0 dX8_mixSplits_8 o8 rfl hin_X8_mixSplits_X8 (by decide) lk_X8_mixSplits_12 rfl rfl ?_
      refine V_getNJ C 2 2 rfl (host := "DockTree") dX8_mixSplits_11 o7 rfl hin_X8_mixSplits_X7 (by decide) (by decide +kernel) rfl rfl rfl ?_
      refine V_icmp_ge C 113 dX8_mixSplits_14 (by decide) (by omega) (by omega) (fun z => ?_) (fun z => ?_)
      · exact absurd z (by omega)
      · refine V_aload_n C dX8_mixSplits_17 rfl ?_
        refine V_getR C 0 dX8_mixSplits_18 o8 rfl hin_X8_mixSplits_X8 (by decide) lk_X8_mixSplits_12 rfl rfl ?_
        refine V_getNR C 4 (host := "DockTree") dX8_mixSplits_21 o7 rfl hin_X8_mixSplits_X7 (by decide) (by decide +kernel) rfl rfl ?_
        refine V_iload C dX8_mixSplits_24 rfl ?_
        refine V_callVD (nA := 1) C dX8_mixSplits_26 (w_stateOf C.gp hL hW.2.1 (by omega)) gX8_mixSplits_X4_stateOf rfl o4 rfl (by decide +kernel) rfl (by decide) (by decide) (Nat.le_of_ble_eq_true rfl) ⟨by omega, by omega⟩ rfl ?_
        refine V_if_ne C 36 dX8_mixSplits_29 (by decide) (by omega) (fun z2 => ?_) (fun z2 => ?_)
        · rw [dpF, if_neg z2] at go
          refine V_aload_n C dX8_mixSplits_36 rfl ?_
          refine V_getR C 3 dX8_mixSplits_37 o8 rfl hin_X8_mixSplits_X8 (by decide) lk_X8_mixSplits_33 rfl rfl ?_
          refine V_aload_n C dX8_mixSplits_40 rfl ?_
          refine V_getR C 0 dX8_mixSplits_41 o8 rfl hin_X8_mixSplits_X8 (by decide) lk_X8_mixSplits_12 rfl rfl ?_
          refine V_getNR C 4 (host := "DockTree") dX8_mixSplits_44 o7 rfl hin_X8_mixSplits_X7 (by decide) (by decide +kernel) rfl rfl ?_
          refine V_iload C dX8_mixSplits_47 rfl ?_
          refine V_callVD (nA := 1) C dX8_mixSplits_49 (w_holderOf C.gp hL) gX8_mixSplits_X4_holderOf rfl o4 rfl (by decide +kernel) rfl (by decide) (by decide) (Nat.le_of_ble_eq_true rfl) ⟨by omega, by omega⟩ rfl ?_
          refine V_callVD (nA := 1) C dX8_mixSplits_52 (w_depthOf C.gp hD.2.2.2.2.1) gX8_mixSplits_X5_depthOf rfl o5 rfl (by decide +kernel) rfl (by decide) (by decide) (Nat.le_of_ble_eq_true rfl) ⟨by omega, by omega⟩ rfl ?_
          exact go
        · rw [dpF, if_pos z2] at go
          refine V_iconst C dX8_mixSplits_32 ?_
          refine V_goto C 55 dX8_mixSplits_33 (by decide) ?_
          exact go
  refine V_lload_n C dX8_mixSplits_0 rfl ?_
  refine V_lstore_n C dX8_mixSplits_1 rfl (by decide) ?_
  refine V_iconst C dX8_mixSplits_2 ?_
  refine V_istore C dX8_mixSplits_3 rfl (by decide) ?_
  exact loop (mu c 2).toNat 0 g _ _ _ (by omega) (by omega) eR
set_option maxRecDepth 20000 in
theorem ggX8_digest_X3_depth : GoodIn wsX8_digest wsX3_depth := goodIn_r _ [11, 12, 219, 220, 221] (by decide +kernel) (by decide +kernel)
set_option maxRecDepth 20000 in
theorem gX8_digest_X3_depth : GoodIn wsX8_digest (wsV RX8 291 RX3 yX3_depth wsX3_depth) := goodIn_app (goodIn_of _ (by decide +kernel)) ggX8_digest_X3_depth
set_option maxRecDepth 20000 in
theorem ggX8_digest_X2_length : GoodIn wsX8_digest wsX2_length := goodIn_r _ [17, 18, 222, 223, 224, 225, 226, 227] (by decide +kernel) (by decide +kernel)
set_option maxRecDepth 20000 in
theorem gX8_digest_X2_length : GoodIn wsX8_digest (wsV RX8 263 RX2 yX2_length wsX2_length) := goodIn_app (goodIn_of _ (by decide +kernel)) ggX8_digest_X2_length
set_option maxRecDepth 20000 in
theorem ggX8_digest_X8_whole : GoodIn wsX8_digest wsX8_whole := goodIn_ca (goodIn_ca (goodIn_ca (goodIn_r _ [23, 6, 5, 24, 25, 22, 26, 27, 28, 29, 30, 31, 32, 33, 34, 35, 36, 37, 38, 39, 40, 41, 42, 43, 44, 45, 46, 47, 48, 49, 50, 51, 52, 53, 54, 55, 56, 57, 58, 59, 60, 61, 62, 63, 64, 65, 66, 67, 68, 69, 70, 71, 72, 73, 74, 75, 76, 77, 78, 79, 80, 81, 82, 83, 206, 207, 208, 209, 210, 211, 212, 213, 214, 215, 216, 217, 218, 228, 229, 230, 231, 232, 233, 234, 235, 236, 237, 238, 239, 240, 241, 242, 243, 244, 245, 246, 247, 248] (by decide +kernel) (by decide +kernel)) (goodIn_sub (fun _ h => List.mem_cons_of_mem _ (List.mem_append_left _ (List.mem_append_left _ (List.mem_append_right _ h)))) (by decide +kernel))) (goodIn_sub (fun _ h => List.mem_cons_of_mem _ (List.mem_append_left _ (List.mem_append_right _ h))) (by decide +kernel))) (goodIn_sub (fun _ h => List.mem_cons_of_mem _ (List.mem_append_right _ h)) (by decide +kernel))
set_option maxRecDepth 20000 in
theorem gX8_digest_X8_whole : GoodIn wsX8_digest (wsV RX8 301 RX8 yX8_whole wsX8_whole) := goodIn_app (goodIn_of _ (by decide +kernel)) ggX8_digest_X8_whole
set_option maxRecDepth 20000 in
theorem ggX8_digest_X8_mixPanes : GoodIn wsX8_digest wsX8_mixPanes := goodIn_ca (goodIn_ca (goodIn_ca (goodIn_r _ [87, 6, 2, 88, 89, 90, 22, 91, 92, 93, 94, 95, 24, 25, 26, 27, 28, 29, 30, 31, 32, 33, 34, 35, 96, 97, 98, 99, 100, 101, 46, 47, 40, 41, 42, 43, 44, 45, 102, 103, 104, 105, 106, 107, 108, 109, 5, 110, 111, 112, 51, 113, 114, 115, 116, 117, 118, 119, 120, 121, 122, 123, 124, 125, 126, 127, 128, 129, 130, 131, 132, 133, 134, 135, 136, 137, 138, 59, 60, 61, 62, 63, 139, 140, 141, 142, 143, 144, 145, 146, 147, 148, 149, 150, 151, 152, 153, 154, 155, 156, 157, 158, 159, 160, 161, 162, 206, 207, 208, 209, 210, 211, 212, 213, 214, 215, 216, 217, 218, 228, 229, 230, 231, 232, 233, 234, 235, 236, 237, 238, 239, 240, 241, 242, 243, 244, 245, 246, 247, 248] (by decide +kernel) (by decide +kernel)) (goodIn_sub (fun _ h => List.mem_cons_of_mem _ (List.mem_append_left _ (List.mem_append_left _ (List.mem_append_right _ h)))) (by decide +kernel))) (goodIn_sub (fun _ h => List.mem_cons_of_mem _ (List.mem_append_left _ (List.mem_append_right _ h))) (by decide +kernel))) (goodIn_sub (fun _ h => List.mem_cons_of_mem _ (List.mem_append_right _ h)) (by decide +kernel))
set_option maxRecDepth 20000 in
theorem gX8_digest_X8_mixPanes : GoodIn wsX8_digest (wsV RX8 304 RX8 yX8_mixPanes wsX8_mixPanes) := goodIn_app (goodIn_of _ (by decide +kernel)) ggX8_digest_X8_mixPanes
set_option maxRecDepth 20000 in
theorem ggX8_digest_X8_mixSplits : GoodIn wsX8_digest wsX8_mixSplits := goodIn_ca (goodIn_ca (goodIn_ca (goodIn_r _ [166, 6, 5, 2, 40, 41, 42, 43, 44, 45, 46, 22, 47, 102, 103, 104, 105, 147, 148, 149, 51, 150, 151, 167, 168, 169, 170, 92, 93, 94, 95, 171, 172, 173, 24, 25, 26, 27, 28, 29, 30, 31, 32, 33, 34, 35, 139, 140, 141, 174, 175, 176, 177, 178, 179, 180, 181, 182, 59, 60, 61, 62, 63, 134, 135, 136, 137, 138, 183, 70, 71, 72, 73, 115, 116, 117, 118, 119, 184, 185, 186, 187, 188, 206, 207, 208, 209, 210, 211, 212, 213, 214, 215, 216, 217, 218, 228, 229, 230, 231, 232, 233, 234, 235, 236, 237, 238, 239, 240, 241, 242, 243, 244, 245, 246, 247, 248] (by decide +kernel) (by decide +kernel)) (goodIn_sub (fun _ h => List.mem_cons_of_mem _ (List.mem_append_left _ (List.mem_append_left _ (List.mem_append_right _ h)))) (by decide +kernel))) (goodIn_sub (fun _ h => List.mem_cons_of_mem _ (List.mem_append_left _ (List.mem_append_right _ h))) (by decide +kernel))) (goodIn_sub (fun _ h => List.mem_cons_of_mem _ (List.mem_append_right _ h)) (by decide +kernel))
set_option maxRecDepth 20000 in
theorem gX8_digest_X8_mixSplits : GoodIn wsX8_digest (wsV RX8 308 RX8 yX8_mixSplits wsX8_mixSplits) := goodIn_app (goodIn_of _ (by decide +kernel)) ggX8_digest_X8_mixSplits
set_option maxRecDepth 20000 in
theorem ggX8_digest_X5_groups : GoodIn wsX8_digest wsX5_groups := goodIn_r _ [52, 53, 54, 236, 237, 238, 239, 240, 241, 242, 243, 244, 245, 246, 247, 248] (by decide +kernel) (by decide +kernel)
set_option maxRecDepth 20000 in
theorem gX8_digest_X5_groups : GoodIn wsX8_digest (wsV RX8 116 RX5 yX5_groups wsX5_groups) := goodIn_app (goodIn_of _ (by decide +kernel)) ggX8_digest_X5_groups
set_option maxRecDepth 20000 in
theorem ggX8_digest_X8_group : GoodIn wsX8_digest wsX8_group := goodIn_ca (goodIn_ca (goodIn_ca (goodIn_r _ [192, 6, 5, 156, 157, 22, 158, 27, 28, 29, 30, 31, 32, 33, 34, 35, 193, 194, 195, 51, 196, 53, 68, 46, 47, 140, 141, 129, 130, 131, 43, 132, 133, 206, 207, 208, 209, 210, 211, 212, 213, 214, 215, 216, 217, 218, 236, 237, 238, 239, 240, 241, 242, 243, 244, 245, 246, 247, 248, 228, 229, 230, 231, 232, 233, 234, 235] (by decide +kernel) (by decide +kernel)) (goodIn_sub (fun _ h => List.mem_cons_of_mem _ (List.mem_append_left _ (List.mem_append_left _ (List.mem_append_right _ h)))) (by decide +kernel))) (goodIn_sub (fun _ h => List.mem_cons_of_mem _ (List.mem_append_left _ (List.mem_append_right _ h))) (by decide +kernel))) (goodIn_sub (fun _ h => List.mem_cons_of_mem _ (List.mem_append_right _ h)) (by decide +kernel))
set_option maxRecDepth 20000 in
theorem gX8_digest_X8_group : GoodIn wsX8_digest (wsV RX8 311 RX8 yX8_group wsX8_group) := goodIn_app (goodIn_of _ (by decide +kernel)) ggX8_digest_X8_group
set_option maxRecDepth 20000 in
theorem ggX8_digest_X4_countOf : GoodIn wsX8_digest wsX4_countOf := goodIn_r _ [62, 63, 46, 22, 47, 228, 229, 230, 231, 232, 233, 234, 235] (by decide +kernel) (by decide +kernel)
set_option maxRecDepth 20000 in
theorem gX8_digest_X4_countOf : GoodIn wsX8_digest (wsV RX8 107 RX4 yX4_countOf wsX4_countOf) := goodIn_app (goodIn_of _ (by decide +kernel)) ggX8_digest_X4_countOf
set_option maxRecDepth 20000 in
theorem ggX8_digest_X8_floating : GoodIn wsX8_digest wsX8_floating := goodIn_ca (goodIn_ca (goodIn_ca (goodIn_r _ [200, 6, 156, 157, 22, 158, 27, 28, 29, 30, 31, 32, 33, 34, 35, 159, 160, 161, 43, 162, 45, 138, 46, 47, 129, 130, 131, 132, 133, 206, 207, 208, 209, 210, 211, 212, 213, 214, 215, 216, 217, 218, 228, 229, 230, 231, 232, 233, 234, 235] (by decide +kernel) (by decide +kernel)) (goodIn_sub (fun _ h => List.mem_cons_of_mem _ (List.mem_append_left _ (List.mem_append_left _ (List.mem_append_right _ h)))) (by decide +kernel))) (goodIn_sub (fun _ h => List.mem_cons_of_mem _ (List.mem_append_left _ (List.mem_append_right _ h))) (by decide +kernel))) (goodIn_sub (fun _ h => List.mem_cons_of_mem _ (List.mem_append_right _ h)) (by decide +kernel))
set_option maxRecDepth 20000 in
theorem gX8_digest_X8_floating : GoodIn wsX8_digest (wsV RX8 314 RX8 yX8_floating wsX8_floating) := goodIn_app (goodIn_of _ (by decide +kernel)) ggX8_digest_X8_floating
set_option maxRecDepth 20000 in
theorem ggX8_digest_X7_hasKept : GoodIn wsX8_digest wsX7_hasKept := goodIn_r _ [204, 205, 46, 22, 47, 212, 213, 214, 215, 216, 217, 218] (by decide +kernel) (by decide +kernel)
set_option maxRecDepth 20000 in
theorem gX8_digest_X7_hasKept : GoodIn wsX8_digest (wsV RX8 185 RX7 yX7_hasKept wsX7_hasKept) := goodIn_app (goodIn_of _ (by decide +kernel)) ggX8_digest_X7_hasKept
theorem dX8_digest_0 : decode cX8_digest 0 = .ok (.ldc2_w 297, 3) := by decide +kernel
theorem dX8_digest_3 : decode cX8_digest 3 = .ok (.lstore_n 1, 1) := by decide +kernel
theorem dX8_digest_4 : decode cX8_digest 4 = .ok (.ldc2_w 299, 3) := by decide +kernel
theorem dX8_digest_7 : decode cX8_digest 7 = .ok (.lload_n 1, 1) := by decide +kernel
theorem dX8_digest_8 : decode cX8_digest 8 = .ok (.lmul, 1) := by decide +kernel
theorem dX8_digest_9 : decode cX8_digest 9 = .ok (.aload_n 0, 1) := by decide +kernel
theorem dX8_digest_10 : decode cX8_digest 10 = .ok (.getfield 19, 3) := by decide +kernel
theorem dX8_digest_13 : decode cX8_digest 13 = .ok (.invokevirtual 291, 3) := by decide +kernel
theorem dX8_digest_16 : decode cX8_digest 16 = .ok (.i2l, 1) := by decide +kernel
theorem dX8_digest_17 : decode cX8_digest 17 = .ok (.ladd, 1) := by decide +kernel
theorem dX8_digest_18 : decode cX8_digest 18 = .ok (.lstore_n 1, 1) := by decide +kernel
theorem dX8_digest_19 : decode cX8_digest 19 = .ok (.ldc2_w 299, 3) := by decide +kernel
theorem dX8_digest_22 : decode cX8_digest 22 = .ok (.lload_n 1, 1) := by decide +kernel
theorem dX8_digest_23 : decode cX8_digest 23 = .ok (.lmul, 1) := by decide +kernel
theorem dX8_digest_24 : decode cX8_digest 24 = .ok (.aload_n 0, 1) := by decide +kernel
theorem dX8_digest_25 : decode cX8_digest 25 = .ok (.getfield 26, 3) := by decide +kernel
theorem dX8_digest_28 : decode cX8_digest 28 = .ok (.invokevirtual 263, 3) := by decide +kernel
theorem dX8_digest_31 : decode cX8_digest 31 = .ok (.i2l, 1) := by decide +kernel
theorem dX8_digest_32 : decode cX8_digest 32 = .ok (.ladd, 1) := by decide +kernel
theorem dX8_digest_33 : decode cX8_digest 33 = .ok (.lstore_n 1, 1) := by decide +kernel
theorem dX8_digest_34 : decode cX8_digest 34 = .ok (.iconst 0, 1) := by decide +kernel
theorem dX8_digest_35 : decode cX8_digest 35 = .ok (.istore_n 3, 1) := by decide +kernel
theorem dX8_digest_36 : decode cX8_digest 36 = .ok (.iload_n 3, 1) := by decide +kernel
theorem dX8_digest_37 : decode cX8_digest 37 = .ok (.bipush 11, 2) := by decide +kernel
theorem dX8_digest_39 : decode cX8_digest 39 = .ok (.if_icmp .gt 22, 3) := by decide +kernel
theorem dX8_digest_42 : decode cX8_digest 42 = .ok (.ldc2_w 299, 3) := by decide +kernel
theorem dX8_digest_45 : decode cX8_digest 45 = .ok (.lload_n 1, 1) := by decide +kernel
theorem dX8_digest_46 : decode cX8_digest 46 = .ok (.lmul, 1) := by decide +kernel
theorem dX8_digest_47 : decode cX8_digest 47 = .ok (.aload_n 0, 1) := by decide +kernel
theorem dX8_digest_48 : decode cX8_digest 48 = .ok (.iload_n 3, 1) := by decide +kernel
theorem dX8_digest_49 : decode cX8_digest 49 = .ok (.invokevirtual 301, 3) := by decide +kernel
theorem dX8_digest_52 : decode cX8_digest 52 = .ok (.i2l, 1) := by decide +kernel
theorem dX8_digest_53 : decode cX8_digest 53 = .ok (.ladd, 1) := by decide +kernel
theorem dX8_digest_54 : decode cX8_digest 54 = .ok (.lstore_n 1, 1) := by decide +kernel
theorem dX8_digest_55 : decode cX8_digest 55 = .ok (.iinc 3 1, 3) := by decide +kernel
theorem dX8_digest_58 : decode cX8_digest 58 = .ok (.goto (-22), 3) := by decide +kernel
theorem dX8_digest_61 : decode cX8_digest 61 = .ok (.aload_n 0, 1) := by decide +kernel
theorem dX8_digest_62 : decode cX8_digest 62 = .ok (.lload_n 1, 1) := by decide +kernel
theorem dX8_digest_63 : decode cX8_digest 63 = .ok (.invokevirtual 304, 3) := by decide +kernel
theorem dX8_digest_66 : decode cX8_digest 66 = .ok (.lstore_n 1, 1) := by decide +kernel
theorem dX8_digest_67 : decode cX8_digest 67 = .ok (.aload_n 0, 1) := by decide +kernel
theorem dX8_digest_68 : decode cX8_digest 68 = .ok (.lload_n 1, 1) := by decide +kernel
theorem dX8_digest_69 : decode cX8_digest 69 = .ok (.invokevirtual 308, 3) := by decide +kernel
theorem dX8_digest_72 : decode cX8_digest 72 = .ok (.lstore_n 1, 1) := by decide +kernel
theorem dX8_digest_73 : decode cX8_digest 73 = .ok (.iconst 0, 1) := by decide +kernel
theorem dX8_digest_74 : decode cX8_digest 74 = .ok (.istore_n 3, 1) := by decide +kernel
theorem dX8_digest_75 : decode cX8_digest 75 = .ok (.iload_n 3, 1) := by decide +kernel
theorem dX8_digest_76 : decode cX8_digest 76 = .ok (.aload_n 0, 1) := by decide +kernel
theorem dX8_digest_77 : decode cX8_digest 77 = .ok (.getfield 33, 3) := by decide +kernel
theorem dX8_digest_80 : decode cX8_digest 80 = .ok (.invokevirtual 116, 3) := by decide +kernel
theorem dX8_digest_83 : decode cX8_digest 83 = .ok (.if_icmp .ge 22, 3) := by decide +kernel
theorem dX8_digest_86 : decode cX8_digest 86 = .ok (.ldc2_w 299, 3) := by decide +kernel
theorem dX8_digest_89 : decode cX8_digest 89 = .ok (.lload_n 1, 1) := by decide +kernel
theorem dX8_digest_90 : decode cX8_digest 90 = .ok (.lmul, 1) := by decide +kernel
theorem dX8_digest_91 : decode cX8_digest 91 = .ok (.aload_n 0, 1) := by decide +kernel
theorem dX8_digest_92 : decode cX8_digest 92 = .ok (.iload_n 3, 1) := by decide +kernel
theorem dX8_digest_93 : decode cX8_digest 93 = .ok (.invokevirtual 311, 3) := by decide +kernel
theorem dX8_digest_96 : decode cX8_digest 96 = .ok (.i2l, 1) := by decide +kernel
theorem dX8_digest_97 : decode cX8_digest 97 = .ok (.ladd, 1) := by decide +kernel
theorem dX8_digest_98 : decode cX8_digest 98 = .ok (.lstore_n 1, 1) := by decide +kernel
theorem dX8_digest_99 : decode cX8_digest 99 = .ok (.iinc 3 1, 3) := by decide +kernel
theorem dX8_digest_102 : decode cX8_digest 102 = .ok (.goto (-27), 3) := by decide +kernel
theorem dX8_digest_105 : decode cX8_digest 105 = .ok (.iconst 0, 1) := by decide +kernel
theorem dX8_digest_106 : decode cX8_digest 106 = .ok (.istore_n 3, 1) := by decide +kernel
theorem dX8_digest_107 : decode cX8_digest 107 = .ok (.iload_n 3, 1) := by decide +kernel
theorem dX8_digest_108 : decode cX8_digest 108 = .ok (.aload_n 0, 1) := by decide +kernel
theorem dX8_digest_109 : decode cX8_digest 109 = .ok (.getfield 12, 3) := by decide +kernel
theorem dX8_digest_112 : decode cX8_digest 112 = .ok (.getfield 97, 3) := by decide +kernel
theorem dX8_digest_115 : decode cX8_digest 115 = .ok (.bipush 48, 2) := by decide +kernel
theorem dX8_digest_117 : decode cX8_digest 117 = .ok (.invokevirtual 107, 3) := by decide +kernel
theorem dX8_digest_120 : decode cX8_digest 120 = .ok (.if_icmp .ge 22, 3) := by decide +kernel
theorem dX8_digest_123 : decode cX8_digest 123 = .ok (.ldc2_w 299, 3) := by decide +kernel
theorem dX8_digest_126 : decode cX8_digest 126 = .ok (.lload_n 1, 1) := by decide +kernel
theorem dX8_digest_127 : decode cX8_digest 127 = .ok (.lmul, 1) := by decide +kernel
theorem dX8_digest_128 : decode cX8_digest 128 = .ok (.aload_n 0, 1) := by decide +kernel
theorem dX8_digest_129 : decode cX8_digest 129 = .ok (.iload_n 3, 1) := by decide +kernel
theorem dX8_digest_130 : decode cX8_digest 130 = .ok (.invokevirtual 314, 3) := by decide +kernel
theorem dX8_digest_133 : decode cX8_digest 133 = .ok (.i2l, 1) := by decide +kernel
theorem dX8_digest_134 : decode cX8_digest 134 = .ok (.ladd, 1) := by decide +kernel
theorem dX8_digest_135 : decode cX8_digest 135 = .ok (.lstore_n 1, 1) := by decide +kernel
theorem dX8_digest_136 : decode cX8_digest 136 = .ok (.iinc 3 1, 3) := by decide +kernel
theorem dX8_digest_139 : decode cX8_digest 139 = .ok (.goto (-32), 3) := by decide +kernel
theorem dX8_digest_142 : decode cX8_digest 142 = .ok (.iconst 0, 1) := by decide +kernel
theorem dX8_digest_143 : decode cX8_digest 143 = .ok (.istore_n 3, 1) := by decide +kernel
theorem dX8_digest_144 : decode cX8_digest 144 = .ok (.iload_n 3, 1) := by decide +kernel
theorem dX8_digest_145 : decode cX8_digest 145 = .ok (.iconst 4, 1) := by decide +kernel
theorem dX8_digest_146 : decode cX8_digest 146 = .ok (.if_icmp .ge 33, 3) := by decide +kernel
theorem dX8_digest_149 : decode cX8_digest 149 = .ok (.ldc2_w 299, 3) := by decide +kernel
theorem dX8_digest_152 : decode cX8_digest 152 = .ok (.lload_n 1, 1) := by decide +kernel
theorem dX8_digest_153 : decode cX8_digest 153 = .ok (.lmul, 1) := by decide +kernel
theorem dX8_digest_154 : decode cX8_digest 154 = .ok (.aload_n 0, 1) := by decide +kernel
theorem dX8_digest_155 : decode cX8_digest 155 = .ok (.getfield 12, 3) := by decide +kernel
theorem dX8_digest_158 : decode cX8_digest 158 = .ok (.iload_n 3, 1) := by decide +kernel
theorem dX8_digest_159 : decode cX8_digest 159 = .ok (.invokevirtual 185, 3) := by decide +kernel
theorem dX8_digest_162 : decode cX8_digest 162 = .ok (.ifCond .eq 7, 3) := by decide +kernel
theorem dX8_digest_165 : decode cX8_digest 165 = .ok (.iconst 1, 1) := by decide +kernel
theorem dX8_digest_166 : decode cX8_digest 166 = .ok (.goto 4, 3) := by decide +kernel
theorem dX8_digest_169 : decode cX8_digest 169 = .ok (.iconst 0, 1) := by decide +kernel
theorem dX8_digest_170 : decode cX8_digest 170 = .ok (.i2l, 1) := by decide +kernel
theorem dX8_digest_171 : decode cX8_digest 171 = .ok (.ladd, 1) := by decide +kernel
theorem dX8_digest_172 : decode cX8_digest 172 = .ok (.lstore_n 1, 1) := by decide +kernel
theorem dX8_digest_173 : decode cX8_digest 173 = .ok (.iinc 3 1, 3) := by decide +kernel
theorem dX8_digest_176 : decode cX8_digest 176 = .ok (.goto (-32), 3) := by decide +kernel
theorem dX8_digest_179 : decode cX8_digest 179 = .ok (.lload_n 1, 1) := by decide +kernel
theorem dX8_digest_180 : decode cX8_digest 180 = .ok (.lreturn, 1) := by decide +kernel
theorem hin_X8_digest_X8 : ∀ w ∈ wsX80, w ∈ wsX8_digest := by decide +kernel
theorem lk_X8_digest_19 : Cond.fieldLink RX8 19 RX8 "history" "LDockTree$History;" ∈ wsX8_digest := by decide +kernel
theorem lk_X8_digest_26 : Cond.fieldLink RX8 26 RX8 "text" "LDockTree$CommandText;" ∈ wsX8_digest := by decide +kernel
theorem lk_X8_digest_33 : Cond.fieldLink RX8 33 RX8 "plan" "LDockTree$Plan;" ∈ wsX8_digest := by decide +kernel
theorem lk_X8_digest_12 : Cond.fieldLink RX8 12 RX8 "now" "LDockTree$State;" ∈ wsX8_digest := by decide +kernel
theorem hin_X8_digest_X7 : ∀ w ∈ wsX70, w ∈ wsX8_digest := by decide +kernel
theorem k_digest (hG : GP G) (hD : DoS S a c h t p b q) (hW : Wo mu c h t p) (h10 : 0 ≤ mu p 10 ∧ mu p 10 ≤ mu p 9) : Ct G l yX8_digest wsX8_digest 6 0 0 [.ref a] S n mu la (Dt (some (.long (diF mu c h t p))) S n mu la) := by
  have o8 := hD.1
  have o7 := hD.2.1.1
  have o5 := hD.2.2.2.2.1.1
  have o4 := hD.2.1.2.2.1.1
  have o3 := hD.2.2.1.1
  have o2 := hD.2.2.2.1.1
  have hL := hD.2.1.2.2.1
  have bc := gL_bd hW.2.1 (by omega) 2 48
  have r9 := hW.1 p 9
  have r10 := hW.1 p 10
  unfold diF
  generalize eG1 : mx (mx 43151 (mu h 1)) (mu t 2) = g1
  generalize eG2 : mxG (fun k => whF mu c p k) 12 0 g1 = g2
  generalize eG3 : mzG mu c p (mu c 2).toNat 0 (mpG mu c p (mu c 2).toNat 0 g2) = g3
  generalize eG4 : mxG (fun k => gL (lay mu (c + 2)) 4 (tnF (pl mu p) k - 16)) (mu p 9 - mu p 10).toNat 0 g3 = g4
  generalize eG5 : mxG (fun k => gL (lay mu (c + 2)) 4 (mbrF (lay mu (c + 2)) 48 k - 16)) (gL (lay mu (c + 2)) 2 48).toNat 0 g4 = g5
  generalize eG6 : mxG (fun k => hkF mu c k) 4 0 g5 = g6
  refine Ct.ofV (cc := cX8_digest) (nL := 4) (ret := (some .long)) [some (.ref a), none, none, none] hG (by decide) rfl (Nat.le_of_ble_eq_true rfl) rfl ?_
  rintro X rfl rfl C hcl hsl E
  have loop4 : ∀ (d : Nat) (k : Int) (g : Int64), k + d = 4 → 0 ≤ k → mxG (fun k => hkF mu c k) d k g = g6 → V X 144 [some (.ref a), some (.long g), none, some (.int (I32 k))] [] S n mu la 0 0 := by
    intro d
    induction d with
    | zero =>
      intro k g h1 h2 h3
      have h3 : g6 = g := h3.symm
      subst h3
      refine V_iload_n C dX8_digest_144 rfl ?_
      refine V_iconst C dX8_digest_145 ?_
      refine V_icmp_ge C 179 dX8_digest_146 (by decide) (by omega) (by omega) (fun z => ?_) (fun z => ?_)
      · refine V_lload_n C dX8_digest_179 rfl ?_
        refine V_lreturn C E dX8_digest_180 (by omega) (by omega) ?_
        exact Dt_rfl
      · exact absurd z (by omega)
    | succ d ih =>
      intro k g h1 h2 h3
      rw [mxG] at h3
      have bk := hkF_b mu c k
      refine V_iload_n C dX8_digest_144 rfl ?_
      refine V_iconst C dX8_digest_145 ?_
      refine V_icmp_ge C 179 dX8_digest_146 (by decide) (by omega) (by omega) (fun z => ?_) (fun z => ?_)
      · exact absurd z (by omega)
      · refine V_ldc2 C (v := 31) dX8_digest_149 (by decide +kernel) ?_
        refine V_lload_n C dX8_digest_152 rfl ?_
        refine V_lmul C dX8_digest_153 ?_
        refine V_aload_n C dX8_digest_154 rfl ?_
        refine V_getR C 0 dX8_digest_155 o8 rfl hin_X8_digest_X8 (by decide) lk_X8_digest_12 rfl rfl ?_
        refine V_iload_n C dX8_digest_158 rfl ?_
        refine V_callVD (nA := 1) C dX8_digest_159 (c_hasKept C.gp hD.2.1 hW.1) gX8_digest_X7_hasKept rfl o7 rfl (by decide +kernel) rfl (by decide) (by decide) (Nat.le_of_ble_eq_true rfl) ⟨by omega, by omega⟩ rfl ?_
        refine V_if_eq C 169 dX8_digest_162 (by decide) (by omega) (fun z2 => ?_) (fun z2 => ?_)
        · rw [z2] at h3
          refine V_iconst C dX8_digest_169 ?_
          refine V_i2l C dX8_digest_170 ?_
          refine V_ladd C dX8_digest_171 ?_
          refine V_lstore_n C dX8_digest_172 rfl (by decide) ?_
          refine V_iinc C dX8_digest_173 rfl rfl (by decide) ?_
          refine V_goto C 144 dX8_digest_176 (by decide) ?_
          exact ih (k + 1) _ (by omega) (by omega) h3
        · rw [show hkF mu c k = 1 by omega] at h3
          refine V_iconst C dX8_digest_165 ?_
          refine V_goto C 170 dX8_digest_166 (by decide) ?_
          refine V_i2l C dX8_digest_170 ?_
          refine V_ladd C dX8_digest_171 ?_
          refine V_lstore_n C dX8_digest_172 rfl (by decide) ?_
          refine V_iinc C dX8_digest_173 rfl rfl (by decide) ?_
          refine V_goto C 144 dX8_digest_176 (by decide) ?_
          exact ih (k + 1) _ (by omega) (by omega) h3
  have loop3 : ∀ (d : Nat) (k : Int) (g : Int64), (k + d = gL (lay mu (c + 2)) 2 48 ∨ (d = 0 ∧ gL (lay mu (c + 2)) 2 48 ≤ k ∧ k ≤ 16000000)) → 0 ≤ k → mxG (fun k => gL (lay mu (c + 2)) 4 (mbrF (lay mu (c + 2)) 48 k - 16)) d k g = g5 → V X 107 [some (.ref a), some (.long g), none, some (.int (I32 k))] [] S n mu la 0 0 := by
    intro d
    induction d with
    | zero =>
      intro k g h1 h2 h3
      have h3 : g5 = g := h3.symm
      subst h3
      refine V_iload_n C dX8_digest_107 rfl ?_
      refine V_aload_n C dX8_digest_108 rfl ?_
      refine V_getR C 0 dX8_digest_109 o8 rfl hin_X8_digest_X8 (by decide) lk_X8_digest_12 rfl rfl ?_
      refine V_getNR C 4 (host := "DockTree") dX8_digest_112 o7 rfl hin_X8_digest_X7 (by decide) (by decide +kernel) rfl rfl ?_
      refine V_bipush C dX8_digest_115 (by decide +kernel) ?_
      refine V_callVD (nA := 1) C dX8_digest_117 (w_countOf C.gp hL) gX8_digest_X4_countOf rfl o4 rfl (by decide +kernel) rfl (by decide) (by decide) (Nat.le_of_ble_eq_true rfl) ⟨by omega, by omega⟩ rfl ?_
      refine V_icmp_ge C 142 dX8_digest_120 (by decide) (by omega) (by omega) (fun z => ?_) (fun z => ?_)
      · refine V_iconst C dX8_digest_142 ?_
        refine V_istore_n C dX8_digest_143 rfl (by decide) ?_
        exact loop4 4 0 _ (by omega) (by omega) eG6
      · exact absurd z (by omega)
    | succ d ih =>
      intro k g h1 h2 h3
      rw [mxG] at h3
      refine V_iload_n C dX8_digest_107 rfl ?_
      refine V_aload_n C dX8_digest_108 rfl ?_
      refine V_getR C 0 dX8_digest_109 o8 rfl hin_X8_digest_X8 (by decide) lk_X8_digest_12 rfl rfl ?_
      refine V_getNR C 4 (host := "DockTree") dX8_digest_112 o7 rfl hin_X8_digest_X7 (by decide) (by decide +kernel) rfl rfl ?_
      refine V_bipush C dX8_digest_115 (by decide +kernel) ?_
      refine V_callVD (nA := 1) C dX8_digest_117 (w_countOf C.gp hL) gX8_digest_X4_countOf rfl o4 rfl (by decide +kernel) rfl (by decide) (by decide) (Nat.le_of_ble_eq_true rfl) ⟨by omega, by omega⟩ rfl ?_
      refine V_icmp_ge C 142 dX8_digest_120 (by decide) (by omega) (by omega) (fun z => ?_) (fun z => ?_)
      · exact absurd z (by omega)
      · refine V_ldc2 C (v := 31) dX8_digest_123 (by decide +kernel) ?_
        refine V_lload_n C dX8_digest_126 rfl ?_
        refine V_lmul C dX8_digest_127 ?_
        refine V_aload_n C dX8_digest_128 rfl ?_
        refine V_iload_n C dX8_digest_129 rfl ?_
        refine V_callVD (nA := 1) C dX8_digest_130 (k_floating C.gp hD hW (by omega) (by unfold fiF; rw [if_pos (by omega)])) gX8_digest_X8_floating rfl o8 rfl (by decide +kernel) rfl (by decide) (by decide) (Nat.le_of_ble_eq_true rfl) ⟨by omega, by omega⟩ rfl ?_
        refine V_i2l C dX8_digest_133 ?_
        refine V_ladd C dX8_digest_134 ?_
        refine V_lstore_n C dX8_digest_135 rfl (by decide) ?_
        refine V_iinc C dX8_digest_136 rfl rfl (by decide) ?_
        refine V_goto C 107 dX8_digest_139 (by decide) ?_
        exact ih (k + 1) _ (by omega) (by omega) h3
  have loop2 : ∀ (d : Nat) (k : Int) (g : Int64), (k + d = mu p 9 - mu p 10 ∨ (d = 0 ∧ mu p 9 - mu p 10 ≤ k ∧ k ≤ 100)) → 0 ≤ k → mxG (fun k => gL (lay mu (c + 2)) 4 (tnF (pl mu p) k - 16)) d k g = g4 → V X 75 [some (.ref a), some (.long g), none, some (.int (I32 k))] [] S n mu la 0 0 := by
    intro d
    induction d with
    | zero =>
      intro k g h1 h2 h3
      have h3 : g4 = g := h3.symm
      subst h3
      refine V_iload_n C dX8_digest_75 rfl ?_
      refine V_aload_n C dX8_digest_76 rfl ?_
      refine V_getR C 3 dX8_digest_77 o8 rfl hin_X8_digest_X8 (by decide) lk_X8_digest_33 rfl rfl ?_
      refine V_callVD (nA := 0) C dX8_digest_80 (w_groups C.gp hD.2.2.2.2.1) gX8_digest_X5_groups rfl o5 rfl (by decide +kernel) rfl (by decide) (by decide) (Nat.le_of_ble_eq_true rfl) ⟨by omega, by omega⟩ rfl ?_
      refine V_icmp_ge C 105 dX8_digest_83 (by decide) (by omega) (by omega) (fun z => ?_) (fun z => ?_)
      · refine V_iconst C dX8_digest_105 ?_
        refine V_istore_n C dX8_digest_106 rfl (by decide) ?_
        exact loop3 _ 0 _ (by omega) (by omega) eG5
      · exact absurd z (by omega)
    | succ d ih =>
      intro k g h1 h2 h3
      rw [mxG] at h3
      refine V_iload_n C dX8_digest_75 rfl ?_
      refine V_aload_n C dX8_digest_76 rfl ?_
      refine V_getR C 3 dX8_digest_77 o8 rfl hin_X8_digest_X8 (by decide) lk_X8_digest_33 rfl rfl ?_
      refine V_callVD (nA := 0) C dX8_digest_80 (w_groups C.gp hD.2.2.2.2.1) gX8_digest_X5_groups rfl o5 rfl (by decide +kernel) rfl (by decide) (by decide) (Nat.le_of_ble_eq_true rfl) ⟨by omega, by omega⟩ rfl ?_
      refine V_icmp_ge C 105 dX8_digest_83 (by decide) (by omega) (by omega) (fun z => ?_) (fun z => ?_)
      · exact absurd z (by omega)
      · refine V_ldc2 C (v := 31) dX8_digest_86 (by decide +kernel) ?_
        refine V_lload_n C dX8_digest_89 rfl ?_
        refine V_lmul C dX8_digest_90 ?_
        refine V_aload_n C dX8_digest_91 rfl ?_
        refine V_iload_n C dX8_digest_92 rfl ?_
        refine V_callVD (nA := 1) C dX8_digest_93 (k_group C.gp hD hW (by omega) (by unfold fiF; rw [if_pos (by omega)])) gX8_digest_X8_group rfl o8 rfl (by decide +kernel) rfl (by decide) (by decide) (Nat.le_of_ble_eq_true rfl) ⟨by omega, by omega⟩ rfl ?_
        refine V_i2l C dX8_digest_96 ?_
        refine V_ladd C dX8_digest_97 ?_
        refine V_lstore_n C dX8_digest_98 rfl (by decide) ?_
        refine V_iinc C dX8_digest_99 rfl rfl (by decide) ?_
        refine V_goto C 75 dX8_digest_102 (by decide) ?_
        exact ih (k + 1) _ (by omega) (by omega) h3
  have loop1 : ∀ (d : Nat) (k : Int) (g : Int64), k + d = 12 → 0 ≤ k → mxG (fun k => whF mu c p k) d k g = g2 → V X 36 [some (.ref a), some (.long g), none, some (.int (I32 k))] [] S n mu la 0 0 := by
    intro d
    induction d with
    | zero =>
      intro k g h1 h2 h3
      have h3 : g2 = g := h3.symm
      subst h3
      refine V_iload_n C dX8_digest_36 rfl ?_
      refine V_bipush C dX8_digest_37 (by decide +kernel) ?_
      refine V_icmp_gt C 61 dX8_digest_39 (by decide) (by omega) (by omega) (fun z => ?_) (fun z => ?_)
      · refine V_aload_n C dX8_digest_61 rfl ?_
        refine V_lload_n C dX8_digest_62 rfl ?_
        refine V_callVD (nA := 1) C dX8_digest_63 (k_mixPanes C.gp hD hW) gX8_digest_X8_mixPanes rfl o8 rfl (by decide +kernel) rfl (by decide) (by decide) (Nat.le_of_ble_eq_true rfl) ⟨by omega, by omega⟩ rfl ?_
        refine V_lstore_n C dX8_digest_66 rfl (by decide) ?_
        refine V_aload_n C dX8_digest_67 rfl ?_
        refine V_lload_n C dX8_digest_68 rfl ?_
        refine V_callVD (nA := 1) C dX8_digest_69 (k_mixSplits C.gp hD hW) gX8_digest_X8_mixSplits rfl o8 rfl (by decide +kernel) rfl (by decide) (by decide) (Nat.le_of_ble_eq_true rfl) ⟨by omega, by omega⟩ rfl ?_
        rw [eG3]
        refine V_lstore_n C dX8_digest_72 rfl (by decide) ?_
        refine V_iconst C dX8_digest_73 ?_
        refine V_istore_n C dX8_digest_74 rfl (by decide) ?_
        exact loop2 _ 0 _ (by omega) (by omega) eG4
      · exact absurd z (by omega)
    | succ d ih =>
      intro k g h1 h2 h3
      rw [mxG] at h3
      refine V_iload_n C dX8_digest_36 rfl ?_
      refine V_bipush C dX8_digest_37 (by decide +kernel) ?_
      refine V_icmp_gt C 61 dX8_digest_39 (by decide) (by omega) (by omega) (fun z => ?_) (fun z => ?_)
      · exact absurd z (by omega)
      · refine V_ldc2 C (v := 31) dX8_digest_42 (by decide +kernel) ?_
        refine V_lload_n C dX8_digest_45 rfl ?_
        refine V_lmul C dX8_digest_46 ?_
        refine V_aload_n C dX8_digest_47 rfl ?_
        refine V_iload_n C dX8_digest_48 rfl ?_
        refine V_callVD (nA := 1) C dX8_digest_49 (k_whole C.gp hD hW (by unfold frF; rw [if_pos (by omega)])) gX8_digest_X8_whole rfl o8 rfl (by decide +kernel) rfl (by decide) (by decide) (Nat.le_of_ble_eq_true rfl) ⟨by omega, by omega⟩ rfl ?_
        refine V_i2l C dX8_digest_52 ?_
        refine V_ladd C dX8_digest_53 ?_
        refine V_lstore_n C dX8_digest_54 rfl (by decide) ?_
        refine V_iinc C dX8_digest_55 rfl rfl (by decide) ?_
        refine V_goto C 36 dX8_digest_58 (by decide) ?_
        exact ih (k + 1) _ (by omega) (by omega) h3
  refine V_ldc2 C (v := 43151) dX8_digest_0 (by decide +kernel) ?_
  refine V_lstore_n C dX8_digest_3 rfl (by decide) ?_
  refine V_ldc2 C (v := 31) dX8_digest_4 (by decide +kernel) ?_
  refine V_lload_n C dX8_digest_7 rfl ?_
  refine V_lmul C dX8_digest_8 ?_
  refine V_aload_n C dX8_digest_9 rfl ?_
  refine V_getR C 1 dX8_digest_10 o8 rfl hin_X8_digest_X8 (by decide) lk_X8_digest_19 rfl rfl ?_
  refine V_callVD (nA := 0) C dX8_digest_13 (c_depth C.gp hD.2.2.1) gX8_digest_X3_depth rfl o3 rfl (by decide +kernel) rfl (by decide) (by decide) (Nat.le_of_ble_eq_true rfl) ⟨by omega, by omega⟩ rfl ?_
  refine V_i2l C dX8_digest_16 ?_
  refine V_ladd C dX8_digest_17 ?_
  refine V_lstore_n C dX8_digest_18 rfl (by decide) ?_
  refine V_ldc2 C (v := 31) dX8_digest_19 (by decide +kernel) ?_
  refine V_lload_n C dX8_digest_22 rfl ?_
  refine V_lmul C dX8_digest_23 ?_
  refine V_aload_n C dX8_digest_24 rfl ?_
  refine V_getR C 2 dX8_digest_25 o8 rfl hin_X8_digest_X8 (by decide) lk_X8_digest_26 rfl rfl ?_
  refine V_callVD (nA := 0) C dX8_digest_28 (t_length C.gp hD.2.2.2.1) gX8_digest_X2_length rfl o2 rfl (by decide +kernel) rfl (by decide) (by decide) (Nat.le_of_ble_eq_true rfl) ⟨by omega, by omega⟩ rfl ?_
  refine V_i2l C dX8_digest_31 ?_
  refine V_ladd C dX8_digest_32 ?_
  refine V_lstore_n C dX8_digest_33 rfl (by decide) ?_
  refine V_iconst C dX8_digest_34 ?_
  refine V_istore_n C dX8_digest_35 rfl (by decide) ?_
  exact loop1 12 0 _ (by omega) (by omega) (by rw [← eG2, ← eG1]; rfl)
end D7
