/-! THE HELPERS OF THE LAW OF p32: the class's call answers, or throws, and the helper answers with the number of the exception -/
theorem asg_self (vm : Vm) (c : ClassId) : vm.assignable c c = true := by
  show vm.assignableAux _ c c = true
  unfold Vm.assignableAux
  simp
theorem cast_self {E T : String} {args : Array Value} {U : State} (h : va_Nc E T U) : (Cond.castable E E).before args U = true := by
  obtain ⟨c, t, h1, -, -⟩ := h
  simp [Cond.before, Cond.holds, Cond.value, h1, asg_self]
abbrev xE1 : String := "java/lang/IndexOutOfBoundsException"
abbrev xE2 : String := "java/lang/IllegalArgumentException"
abbrev xE3 : String := "java/lang/IllegalStateException"
theorem exn_1 : exn 1 = xE1 := rfl
theorem exn_2 : exn 2 = xE2 := rfl
theorem exn_3 : exn 3 = xE3 := rfl
/-- no one of the three exceptions is another -/
def NX (U : State) : Prop := (va_Nc xE1 xE2 U ∧ va_Nc xE1 xE3 U) ∧ (va_Nc xE2 xE1 U ∧ va_Nc xE2 xE3 U) ∧ va_Nc xE3 xE1 U ∧ va_Nc xE3 xE2 U
def GN (G : Gx) : Prop := ∀ U, G.2.2.2.2 U → NX U
def Lq (S : Sh) (c : Int) (mu1 : Mem) (la1 : Lam) : Option Value → Sh → Nat → Mem → Lam → Prop := fun o' S' _ mu' la' => o' = some (.int (I32 c)) ∧ S' = S ∧ mu' = mu1 ∧ la' = la1
section LH
variable {G : Gx} {l : Launch} {S : Sh} {n : Nat} {mu mu' : Mem} {la : Lam} {a fc : Nat} {ks : List Sk} {v : Int}
set_option maxRecDepth 20000 in
theorem ggL_adds_X8_addPane : GoodIn wsL_adds wsX8_addPane := goodIn_ca (goodIn_ca (goodIn_ca (goodIn_r _ [9, 10, 11, 12, 13, 14, 8, 15, 16, 17, 18, 19, 20, 21, 22, 23, 24, 25, 26, 27, 28, 29, 30, 31, 32, 33, 34, 35, 36, 37, 38, 39, 40, 41, 42, 43, 44, 45, 46, 47, 48, 49, 50, 51, 52, 53, 54, 55, 56, 57, 58, 59, 60, 61, 62, 63, 64, 65, 66, 67, 68, 69, 70, 71, 72, 73, 74, 75, 76, 77, 78, 79, 80, 81, 82, 83, 84, 85, 86, 87, 88, 89, 90, 91, 92, 93, 94, 95, 96, 97, 98, 99, 100, 101, 102, 103, 104, 105, 106, 107, 108, 109, 110, 111, 112, 113, 114, 115, 116, 117, 118, 119, 120, 121, 122, 123, 124, 125, 126, 127, 128, 129, 130, 131, 132, 133, 134, 135, 136, 137, 138, 139, 140, 141, 142, 143, 144, 145, 146, 147, 148, 149, 150, 151, 152, 153, 154, 155, 156, 157, 158, 159, 160, 161, 162, 163, 164, 165, 166, 167, 168, 169, 170, 171, 172, 173, 174, 175, 176, 177, 178, 179, 180, 181, 182, 183, 184, 185, 186, 187, 188, 189, 190, 191, 192, 193, 194, 195, 196, 197, 198, 199, 200, 201, 202, 203, 204, 205, 206, 207, 208, 209, 210, 211, 212, 213, 214, 215, 216, 217, 218, 219, 220, 221, 222, 223, 224, 225, 226, 227, 228, 229, 230, 231, 232, 233, 234, 235, 236, 237, 238, 239, 240, 241, 242, 243, 244, 245, 246, 247, 248, 249, 250, 251, 252, 253, 254, 255, 256, 257, 258, 259, 260, 261, 262, 263, 264, 265, 266, 267, 268, 269, 270, 271, 272, 273, 274, 275, 276, 277, 278, 279, 280, 281, 282, 283, 284, 285, 286, 287, 288] (by decide +kernel) (by decide +kernel)) (goodIn_sub (fun _ h => List.mem_cons_of_mem _ (List.mem_append_left _ (List.mem_append_left _ (List.mem_append_right _ h)))) (by decide +kernel))) (goodIn_sub (fun _ h => List.mem_cons_of_mem _ (List.mem_append_left _ (List.mem_append_right _ h))) (by decide +kernel))) (goodIn_sub (fun _ h => List.mem_cons_of_mem _ (List.mem_append_right _ h)) (by decide +kernel))
set_option maxRecDepth 20000 in
theorem gL_adds_X8_addPane : GoodIn wsL_adds (wsV RL 117 RX8 yX8_addPane wsX8_addPane) := goodIn_app (goodIn_of _ (by decide +kernel)) ggL_adds_X8_addPane
theorem dL_adds_0 : decode cL_adds 0 = .ok (.aload_n 0, 1) := by decide +kernel
theorem dL_adds_1 : decode cL_adds 1 = .ok (.iload_n 1, 1) := by decide +kernel
theorem dL_adds_2 : decode cL_adds 2 = .ok (.iload_n 2, 1) := by decide +kernel
theorem dL_adds_3 : decode cL_adds 3 = .ok (.invokevirtual 117, 3) := by decide +kernel
theorem dL_adds_6 : decode cL_adds 6 = .ok (.ireturn, 1) := by decide +kernel
theorem dL_adds_7 : decode cL_adds 7 = .ok (.astore_n 3, 1) := by decide +kernel
theorem dL_adds_8 : decode cL_adds 8 = .ok (.ldc 103, 2) := by decide +kernel
theorem dL_adds_10 : decode cL_adds 10 = .ok (.ireturn, 1) := by decide +kernel
theorem dL_adds_11 : decode cL_adds 11 = .ok (.astore_n 3, 1) := by decide +kernel
theorem dL_adds_12 : decode cL_adds 12 = .ok (.ldc 77, 2) := by decide +kernel
theorem dL_adds_14 : decode cL_adds 14 = .ok (.ireturn, 1) := by decide +kernel
theorem L_adds_k (hG : GP G) (hA : hasS S a (.inr (.inr (6, ks)))) (hfc : fc ≤ 7) {x1 x2 : Int} (hM : Ct G l yX8_addPane wsX8_addPane fc 0 0 [.ref a, .int (I32 x1), .int (I32 x2)] S n mu la (Dt (some (.int (I32 v))) S n mu' la)) : Ct G l yL_adds wsL_adds 8 0 0 [.ref a, .int (I32 x1), .int (I32 x2)] S n mu la (Dt (some (.int (I32 v))) S n mu' la) := by
  refine Ct.ofH (cc := cL_adds) (nL := 4) (ret := some .int) (hh := [(0, 6, 7, 115), (0, 6, 11, 120)]) [some (.ref a), some (.int (I32 x1)), some (.int (I32 x2)), none] hG (by decide) rfl (Nat.le_of_ble_eq_true rfl) rfl ?_
  rintro X rfl rfl C ht hcl hsl E
  refine V_aload_n C dL_adds_0 rfl ?_
  refine V_iload_n C dL_adds_1 rfl ?_
  refine V_iload_n C dL_adds_2 rfl ?_
  refine V_callVD (nA := 2) C dL_adds_3 hM gL_adds_X8_addPane rfl hA rfl (by decide +kernel) rfl (by omega) (by decide) (Nat.le_of_ble_eq_true rfl) ⟨by omega, by omega⟩ rfl ?_
  exact V_ireturn C E dL_adds_6 (by omega) (by omega) Dt_rfl
theorem L_adds_o (hG : GP G) (hA : hasS S a (.inr (.inr (6, ks)))) (hfc : fc ≤ 7) {x1 x2 : Int} (hM : Ct G l yX8_addPane wsX8_addPane fc 0 0 [.ref a, .int (I32 x1), .int (I32 x2)] S n mu la (Dt (some (.int (I32 v))) S n mu' la)) : Ct G l yL_adds wsL_adds 8 1 6 [.ref a, .int (I32 x1), .int (I32 x2)] S n mu la (Lq S v mu' la) := by
  refine Ct.ofH (cc := cL_adds) (nL := 4) (ret := some .int) (hh := [(0, 6, 7, 115), (0, 6, 11, 120)]) [some (.ref a), some (.int (I32 x1)), some (.int (I32 x2)), none] hG (by decide) rfl (Nat.le_of_ble_eq_true rfl) rfl ?_
  rintro X rfl rfl C ht hcl hsl E
  refine V_aload_n C dL_adds_0 rfl ?_
  refine V_iload_n C dL_adds_1 rfl ?_
  refine V_iload_n C dL_adds_2 rfl ?_
  refine V_callVD (nA := 2) C dL_adds_3 hM gL_adds_X8_addPane rfl hA rfl (by decide +kernel) rfl (by omega) (by decide) (Nat.le_of_ble_eq_true rfl) ⟨by omega, by omega⟩ rfl ?_
  exact V_ireturn C E dL_adds_6 (by omega) (by omega) ⟨rfl, rfl, rfl, rfl⟩
theorem L_adds_x2 (hG : GP G) (hGN : GN G) (hA : hasS S a (.inr (.inr (6, ks)))) {x1 x2 : Int} (hM : CtX G l yX8_addPane wsX8_addPane 7 [.ref a, .int (I32 x1), .int (I32 x2)] S n mu la xE2) : Ct G l yL_adds wsL_adds 8 1 6 [.ref a, .int (I32 x1), .int (I32 x2)] S n mu la (Lq S (-10000002) mu la) := by
  refine Ct.ofH (cc := cL_adds) (nL := 4) (ret := some .int) (hh := [(0, 6, 7, 115), (0, 6, 11, 120)]) [some (.ref a), some (.int (I32 x1)), some (.int (I32 x2)), none] hG (by decide) rfl (Nat.le_of_ble_eq_true rfl) rfl ?_
  rintro X rfl rfl C ht hcl hsl E
  have hN := hGN _ C.pe.2.2
  refine V_aload_n C dL_adds_0 rfl ?_
  refine V_iload_n C dL_adds_1 rfl ?_
  refine V_iload_n C dL_adds_2 rfl ?_
  refine V_callVC (nA := 2) C dL_adds_3 hM gL_adds_X8_addPane rfl hA rfl (by decide +kernel) rfl (by omega) (by decide) (Nat.le_of_ble_eq_true rfl) ⟨by omega, by omega⟩ rfl (name := xE2) [] ⟨0, 6, 7, 115⟩ [⟨0, 6, 11, 120⟩] ht ?_ (by decide) (by decide) (C.ts _ (by decide +kernel)) (cast_self hN.2.1.1) (fun q9 n9 => ?_)
  · exact fun _ h9 => absurd h9 List.not_mem_nil
  · refine V_astore_n C dL_adds_7 rfl (by decide) ?_
    refine V_ldcI C (v := -10000002) dL_adds_8 (by decide +kernel) ?_
    exact V_ireturn C E dL_adds_10 (by omega) (by omega) ⟨rfl, rfl, rfl, rfl⟩
theorem L_adds_x3 (hG : GP G) (hGN : GN G) (hA : hasS S a (.inr (.inr (6, ks)))) {x1 x2 : Int} (hM : CtX G l yX8_addPane wsX8_addPane 7 [.ref a, .int (I32 x1), .int (I32 x2)] S n mu la xE3) : Ct G l yL_adds wsL_adds 8 1 6 [.ref a, .int (I32 x1), .int (I32 x2)] S n mu la (Lq S (-10000003) mu la) := by
  refine Ct.ofH (cc := cL_adds) (nL := 4) (ret := some .int) (hh := [(0, 6, 7, 115), (0, 6, 11, 120)]) [some (.ref a), some (.int (I32 x1)), some (.int (I32 x2)), none] hG (by decide) rfl (Nat.le_of_ble_eq_true rfl) rfl ?_
  rintro X rfl rfl C ht hcl hsl E
  have hN := hGN _ C.pe.2.2
  refine V_aload_n C dL_adds_0 rfl ?_
  refine V_iload_n C dL_adds_1 rfl ?_
  refine V_iload_n C dL_adds_2 rfl ?_
  refine V_callVC (nA := 2) C dL_adds_3 hM gL_adds_X8_addPane rfl hA rfl (by decide +kernel) rfl (by omega) (by decide) (Nat.le_of_ble_eq_true rfl) ⟨by omega, by omega⟩ rfl (name := xE3) [⟨0, 6, 7, 115⟩] ⟨0, 6, 11, 120⟩ [] ht ?_ (by decide) (by decide) (C.ts _ (by decide +kernel)) (cast_self hN.2.2.1) (fun q9 n9 => ?_)
  · exact List.forall_mem_cons.mpr ⟨Or.inr ⟨by decide, xE2, C.ts _ (by decide +kernel), hN.2.2.2⟩, fun _ h9 => absurd h9 List.not_mem_nil⟩
  · refine V_astore_n C dL_adds_11 rfl (by decide) ?_
    refine V_ldcI C (v := -10000003) dL_adds_12 (by decide +kernel) ?_
    exact V_ireturn C E dL_adds_14 (by omega) (by omega) ⟨rfl, rfl, rfl, rfl⟩
theorem L_adds (hG : GP G) (hGN : GN G) (hA : hasS S a (.inr (.inr (6, ks)))) (hfc : fc ≤ 7) {x1 x2 : Int} {f : Int} (hc : f = 0 ∨ f = 2 ∨ f = 3) (h0 : f = 0 → Ct G l yX8_addPane wsX8_addPane fc 0 0 [.ref a, .int (I32 x1), .int (I32 x2)] S n mu la (Dt (some (.int (I32 v))) S n mu' la)) (h1 : f ≠ 0 → CtX G l yX8_addPane wsX8_addPane 7 [.ref a, .int (I32 x1), .int (I32 x2)] S n mu la (exn f)) :
    Ct G l yL_adds wsL_adds 8 1 6 [.ref a, .int (I32 x1), .int (I32 x2)] S n mu la (Lq S (if f = 0 then v else -10000000 - f) (if f = 0 then mu' else mu) la) := by
  rcases hc with rfl | rfl | rfl
  · exact L_adds_o hG hA hfc (h0 rfl)
  · exact L_adds_x2 hG hGN hA (h1 (by decide))
  · exact L_adds_x3 hG hGN hA (h1 (by decide))
set_option maxRecDepth 20000 in
theorem ggL_sizes_X8_setWindow : GoodIn wsL_sizes wsX8_setWindow := goodIn_ca (goodIn_ca (goodIn_ca (goodIn_r _ [7, 8, 9, 10, 11, 6, 12, 13, 14, 15, 16, 17, 18, 19, 20, 21, 22, 23, 24, 25, 26, 27, 28, 29, 30, 31, 32, 33, 34, 35, 36, 37, 38, 39, 40, 41, 42, 43, 44, 45, 46, 47, 48, 49, 50, 51, 52, 53, 54, 55, 56, 57, 58, 59, 60, 61, 62, 63, 64, 65, 66, 67, 68, 69, 70, 71, 72, 73, 74, 75, 76, 77, 78, 79, 80, 81, 82, 83, 84, 85, 86, 87, 88, 89, 90, 91, 92, 93, 94, 95, 96, 97, 98, 99, 100, 101, 102, 103, 104, 105, 106, 107, 108, 109, 110, 111, 112, 113, 114, 115, 116, 117, 118, 119, 120, 121, 122, 123, 124, 125, 126, 127, 128, 129, 130, 131, 132, 133, 134, 135, 136, 137, 138, 139, 140, 141, 142, 143, 144, 145, 146, 147, 148, 149, 150, 151, 152, 153, 154, 155, 156, 157, 158, 159, 160, 161, 162, 163, 164, 165, 166, 167, 168, 169, 170, 171, 172, 173, 174, 175, 176, 177, 178, 179, 180, 181, 182, 183, 184, 185, 186, 187, 188, 189, 190, 191, 192, 193, 194, 195, 196, 197, 198, 199, 200, 201, 202, 203, 204, 205, 206, 207, 208, 209, 210, 211, 212, 213, 214, 215, 216, 217, 218, 219, 220, 221, 222, 223, 224, 225, 226, 227, 228, 229, 230, 231, 232, 233, 234, 235, 236, 237, 238, 239, 240, 241, 242, 243, 244, 245, 246, 247, 248, 249, 250, 251, 252, 253, 254, 255, 256, 257, 258, 259, 260, 261, 262, 263, 264, 265, 266, 267, 268, 269, 270, 271, 272, 273, 274] (by decide +kernel) (by decide +kernel)) (goodIn_sub (fun _ h => List.mem_cons_of_mem _ (List.mem_append_left _ (List.mem_append_left _ (List.mem_append_right _ h)))) (by decide +kernel))) (goodIn_sub (fun _ h => List.mem_cons_of_mem _ (List.mem_append_left _ (List.mem_append_right _ h))) (by decide +kernel))) (goodIn_sub (fun _ h => List.mem_cons_of_mem _ (List.mem_append_right _ h)) (by decide +kernel))
set_option maxRecDepth 20000 in
theorem gL_sizes_X8_setWindow : GoodIn wsL_sizes (wsV RL 110 RX8 yX8_setWindow wsX8_setWindow) := goodIn_app (goodIn_of _ (by decide +kernel)) ggL_sizes_X8_setWindow
theorem dL_sizes_0 : decode cL_sizes 0 = .ok (.aload_n 0, 1) := by decide +kernel
theorem dL_sizes_1 : decode cL_sizes 1 = .ok (.iload_n 1, 1) := by decide +kernel
theorem dL_sizes_2 : decode cL_sizes 2 = .ok (.iload_n 2, 1) := by decide +kernel
theorem dL_sizes_3 : decode cL_sizes 3 = .ok (.invokevirtual 110, 3) := by decide +kernel
theorem dL_sizes_6 : decode cL_sizes 6 = .ok (.ireturn, 1) := by decide +kernel
theorem dL_sizes_7 : decode cL_sizes 7 = .ok (.astore_n 3, 1) := by decide +kernel
theorem dL_sizes_8 : decode cL_sizes 8 = .ok (.ldc 103, 2) := by decide +kernel
theorem dL_sizes_10 : decode cL_sizes 10 = .ok (.ireturn, 1) := by decide +kernel
theorem L_sizes_k (hG : GP G) (hA : hasS S a (.inr (.inr (6, ks)))) (hfc : fc ≤ 7) {x1 x2 : Int} (hM : Ct G l yX8_setWindow wsX8_setWindow fc 0 0 [.ref a, .int (I32 x1), .int (I32 x2)] S n mu la (Dt (some (.int (I32 v))) S n mu' la)) : Ct G l yL_sizes wsL_sizes 8 0 0 [.ref a, .int (I32 x1), .int (I32 x2)] S n mu la (Dt (some (.int (I32 v))) S n mu' la) := by
  refine Ct.ofH (cc := cL_sizes) (nL := 4) (ret := some .int) (hh := [(0, 6, 7, 115)]) [some (.ref a), some (.int (I32 x1)), some (.int (I32 x2)), none] hG (by decide) rfl (Nat.le_of_ble_eq_true rfl) rfl ?_
  rintro X rfl rfl C ht hcl hsl E
  refine V_aload_n C dL_sizes_0 rfl ?_
  refine V_iload_n C dL_sizes_1 rfl ?_
  refine V_iload_n C dL_sizes_2 rfl ?_
  refine V_callVD (nA := 2) C dL_sizes_3 hM gL_sizes_X8_setWindow rfl hA rfl (by decide +kernel) rfl (by omega) (by decide) (Nat.le_of_ble_eq_true rfl) ⟨by omega, by omega⟩ rfl ?_
  exact V_ireturn C E dL_sizes_6 (by omega) (by omega) Dt_rfl
theorem L_sizes_o (hG : GP G) (hA : hasS S a (.inr (.inr (6, ks)))) (hfc : fc ≤ 7) {x1 x2 : Int} (hM : Ct G l yX8_setWindow wsX8_setWindow fc 0 0 [.ref a, .int (I32 x1), .int (I32 x2)] S n mu la (Dt (some (.int (I32 v))) S n mu' la)) : Ct G l yL_sizes wsL_sizes 8 1 6 [.ref a, .int (I32 x1), .int (I32 x2)] S n mu la (Lq S v mu' la) := by
  refine Ct.ofH (cc := cL_sizes) (nL := 4) (ret := some .int) (hh := [(0, 6, 7, 115)]) [some (.ref a), some (.int (I32 x1)), some (.int (I32 x2)), none] hG (by decide) rfl (Nat.le_of_ble_eq_true rfl) rfl ?_
  rintro X rfl rfl C ht hcl hsl E
  refine V_aload_n C dL_sizes_0 rfl ?_
  refine V_iload_n C dL_sizes_1 rfl ?_
  refine V_iload_n C dL_sizes_2 rfl ?_
  refine V_callVD (nA := 2) C dL_sizes_3 hM gL_sizes_X8_setWindow rfl hA rfl (by decide +kernel) rfl (by omega) (by decide) (Nat.le_of_ble_eq_true rfl) ⟨by omega, by omega⟩ rfl ?_
  exact V_ireturn C E dL_sizes_6 (by omega) (by omega) ⟨rfl, rfl, rfl, rfl⟩
theorem L_sizes_x2 (hG : GP G) (hGN : GN G) (hA : hasS S a (.inr (.inr (6, ks)))) {x1 x2 : Int} (hM : CtX G l yX8_setWindow wsX8_setWindow 7 [.ref a, .int (I32 x1), .int (I32 x2)] S n mu la xE2) : Ct G l yL_sizes wsL_sizes 8 1 6 [.ref a, .int (I32 x1), .int (I32 x2)] S n mu la (Lq S (-10000002) mu la) := by
  refine Ct.ofH (cc := cL_sizes) (nL := 4) (ret := some .int) (hh := [(0, 6, 7, 115)]) [some (.ref a), some (.int (I32 x1)), some (.int (I32 x2)), none] hG (by decide) rfl (Nat.le_of_ble_eq_true rfl) rfl ?_
  rintro X rfl rfl C ht hcl hsl E
  have hN := hGN _ C.pe.2.2
  refine V_aload_n C dL_sizes_0 rfl ?_
  refine V_iload_n C dL_sizes_1 rfl ?_
  refine V_iload_n C dL_sizes_2 rfl ?_
  refine V_callVC (nA := 2) C dL_sizes_3 hM gL_sizes_X8_setWindow rfl hA rfl (by decide +kernel) rfl (by omega) (by decide) (Nat.le_of_ble_eq_true rfl) ⟨by omega, by omega⟩ rfl (name := xE2) [] ⟨0, 6, 7, 115⟩ [] ht ?_ (by decide) (by decide) (C.ts _ (by decide +kernel)) (cast_self hN.2.1.1) (fun q9 n9 => ?_)
  · exact fun _ h9 => absurd h9 List.not_mem_nil
  · refine V_astore_n C dL_sizes_7 rfl (by decide) ?_
    refine V_ldcI C (v := -10000002) dL_sizes_8 (by decide +kernel) ?_
    exact V_ireturn C E dL_sizes_10 (by omega) (by omega) ⟨rfl, rfl, rfl, rfl⟩
theorem L_sizes (hG : GP G) (hGN : GN G) (hA : hasS S a (.inr (.inr (6, ks)))) (hfc : fc ≤ 7) {x1 x2 : Int} {f : Int} (hc : f = 0 ∨ f = 2) (h0 : f = 0 → Ct G l yX8_setWindow wsX8_setWindow fc 0 0 [.ref a, .int (I32 x1), .int (I32 x2)] S n mu la (Dt (some (.int (I32 v))) S n mu' la)) (h1 : f ≠ 0 → CtX G l yX8_setWindow wsX8_setWindow 7 [.ref a, .int (I32 x1), .int (I32 x2)] S n mu la (exn f)) :
    Ct G l yL_sizes wsL_sizes 8 1 6 [.ref a, .int (I32 x1), .int (I32 x2)] S n mu la (Lq S (if f = 0 then v else -10000000 - f) (if f = 0 then mu' else mu) la) := by
  rcases hc with rfl | rfl
  · exact L_sizes_o hG hA hfc (h0 rfl)
  · exact L_sizes_x2 hG hGN hA (h1 (by decide))
set_option maxRecDepth 20000 in
theorem ggL_leasts_X8_setLeast : GoodIn wsL_leasts wsX8_setLeast := goodIn_ca (goodIn_ca (goodIn_ca (goodIn_r _ [9, 10, 11, 12, 13, 14, 8, 15, 16, 17, 18, 19, 20, 21, 22, 23, 24, 25, 26, 27, 28, 29, 30, 31, 32, 33, 34, 35, 36, 37, 38, 39, 40, 41, 42, 43, 44, 45, 46, 47, 48, 49, 50, 51, 52, 53, 54, 55, 56, 57, 58, 59, 60, 61, 62, 63, 64, 65, 66, 67, 68, 69, 70, 71, 72, 73, 74, 75, 76, 77, 78, 79, 80, 81, 82, 83, 84, 85, 86, 87, 88, 89, 90, 91, 92, 93, 94, 95, 96, 97, 98, 99, 100, 101, 102, 103, 104, 105, 106, 107, 108, 109, 110, 111, 112, 113, 114, 115, 116, 117, 118, 119, 120, 121, 122, 123, 124, 125, 126, 127, 128, 129, 130, 131, 132, 133, 134, 135, 136, 137, 138, 139, 140, 141, 142, 143, 144, 145, 146, 147, 148, 149, 150, 151, 152, 153, 154, 155, 156, 157, 158, 159, 160, 161, 162, 163, 164, 165, 166, 167, 168, 169, 170, 171, 172, 173, 174, 175, 176, 177, 178, 179, 180, 181, 182, 183, 184, 185, 186, 187, 188, 189, 190, 191, 192, 193, 194, 195, 196, 197, 198, 199, 200, 201, 202, 203, 204, 205, 206, 207, 208, 209, 210, 211, 212, 213, 214, 215, 216, 217, 218, 219, 220, 221, 222, 223, 224, 225, 226, 227, 228, 229, 230, 231, 232, 233, 234, 235, 236, 237, 238, 239, 240, 241, 242, 243, 244, 245, 246, 247, 248, 249, 250, 251, 252, 253, 254, 255, 256, 257, 258, 259, 260, 261, 262, 263, 264, 265, 266, 267, 268, 269, 270, 271, 272, 273, 274, 275, 276, 277, 278, 279, 280, 281, 282, 283, 284, 285, 286, 287, 288] (by decide +kernel) (by decide +kernel)) (goodIn_sub (fun _ h => List.mem_cons_of_mem _ (List.mem_append_left _ (List.mem_append_left _ (List.mem_append_right _ h)))) (by decide +kernel))) (goodIn_sub (fun _ h => List.mem_cons_of_mem _ (List.mem_append_left _ (List.mem_append_right _ h))) (by decide +kernel))) (goodIn_sub (fun _ h => List.mem_cons_of_mem _ (List.mem_append_right _ h)) (by decide +kernel))
set_option maxRecDepth 20000 in
theorem gL_leasts_X8_setLeast : GoodIn wsL_leasts (wsV RL 122 RX8 yX8_setLeast wsX8_setLeast) := goodIn_app (goodIn_of _ (by decide +kernel)) ggL_leasts_X8_setLeast
theorem dL_leasts_0 : decode cL_leasts 0 = .ok (.aload_n 0, 1) := by decide +kernel
theorem dL_leasts_1 : decode cL_leasts 1 = .ok (.iload_n 1, 1) := by decide +kernel
theorem dL_leasts_2 : decode cL_leasts 2 = .ok (.iload_n 2, 1) := by decide +kernel
theorem dL_leasts_3 : decode cL_leasts 3 = .ok (.iload_n 3, 1) := by decide +kernel
theorem dL_leasts_4 : decode cL_leasts 4 = .ok (.invokevirtual 122, 3) := by decide +kernel
theorem dL_leasts_7 : decode cL_leasts 7 = .ok (.ireturn, 1) := by decide +kernel
theorem dL_leasts_8 : decode cL_leasts 8 = .ok (.astore 4, 2) := by decide +kernel
theorem dL_leasts_10 : decode cL_leasts 10 = .ok (.ldc 128, 2) := by decide +kernel
theorem dL_leasts_12 : decode cL_leasts 12 = .ok (.ireturn, 1) := by decide +kernel
theorem dL_leasts_13 : decode cL_leasts 13 = .ok (.astore 4, 2) := by decide +kernel
theorem dL_leasts_15 : decode cL_leasts 15 = .ok (.ldc 103, 2) := by decide +kernel
theorem dL_leasts_17 : decode cL_leasts 17 = .ok (.ireturn, 1) := by decide +kernel
theorem L_leasts_k (hG : GP G) (hA : hasS S a (.inr (.inr (6, ks)))) (hfc : fc ≤ 7) {x1 x2 x3 : Int} (hM : Ct G l yX8_setLeast wsX8_setLeast fc 0 0 [.ref a, .int (I32 x1), .int (I32 x2), .int (I32 x3)] S n mu la (Dt (some (.int (I32 v))) S n mu' la)) : Ct G l yL_leasts wsL_leasts 8 0 0 [.ref a, .int (I32 x1), .int (I32 x2), .int (I32 x3)] S n mu la (Dt (some (.int (I32 v))) S n mu' la) := by
  refine Ct.ofH (cc := cL_leasts) (nL := 5) (ret := some .int) (hh := [(0, 7, 8, 126), (0, 7, 13, 115)]) [some (.ref a), some (.int (I32 x1)), some (.int (I32 x2)), some (.int (I32 x3)), none] hG (by decide) rfl (Nat.le_of_ble_eq_true rfl) rfl ?_
  rintro X rfl rfl C ht hcl hsl E
  refine V_aload_n C dL_leasts_0 rfl ?_
  refine V_iload_n C dL_leasts_1 rfl ?_
  refine V_iload_n C dL_leasts_2 rfl ?_
  refine V_iload_n C dL_leasts_3 rfl ?_
  refine V_callVD (nA := 3) C dL_leasts_4 hM gL_leasts_X8_setLeast rfl hA rfl (by decide +kernel) rfl (by omega) (by decide) (Nat.le_of_ble_eq_true rfl) ⟨by omega, by omega⟩ rfl ?_
  exact V_ireturn C E dL_leasts_7 (by omega) (by omega) Dt_rfl
theorem L_leasts_o (hG : GP G) (hA : hasS S a (.inr (.inr (6, ks)))) (hfc : fc ≤ 7) {x1 x2 x3 : Int} (hM : Ct G l yX8_setLeast wsX8_setLeast fc 0 0 [.ref a, .int (I32 x1), .int (I32 x2), .int (I32 x3)] S n mu la (Dt (some (.int (I32 v))) S n mu' la)) : Ct G l yL_leasts wsL_leasts 8 1 6 [.ref a, .int (I32 x1), .int (I32 x2), .int (I32 x3)] S n mu la (Lq S v mu' la) := by
  refine Ct.ofH (cc := cL_leasts) (nL := 5) (ret := some .int) (hh := [(0, 7, 8, 126), (0, 7, 13, 115)]) [some (.ref a), some (.int (I32 x1)), some (.int (I32 x2)), some (.int (I32 x3)), none] hG (by decide) rfl (Nat.le_of_ble_eq_true rfl) rfl ?_
  rintro X rfl rfl C ht hcl hsl E
  refine V_aload_n C dL_leasts_0 rfl ?_
  refine V_iload_n C dL_leasts_1 rfl ?_
  refine V_iload_n C dL_leasts_2 rfl ?_
  refine V_iload_n C dL_leasts_3 rfl ?_
  refine V_callVD (nA := 3) C dL_leasts_4 hM gL_leasts_X8_setLeast rfl hA rfl (by decide +kernel) rfl (by omega) (by decide) (Nat.le_of_ble_eq_true rfl) ⟨by omega, by omega⟩ rfl ?_
  exact V_ireturn C E dL_leasts_7 (by omega) (by omega) ⟨rfl, rfl, rfl, rfl⟩
theorem L_leasts_x1 (hG : GP G) (hGN : GN G) (hA : hasS S a (.inr (.inr (6, ks)))) {x1 x2 x3 : Int} (hM : CtX G l yX8_setLeast wsX8_setLeast 7 [.ref a, .int (I32 x1), .int (I32 x2), .int (I32 x3)] S n mu la xE1) : Ct G l yL_leasts wsL_leasts 8 1 6 [.ref a, .int (I32 x1), .int (I32 x2), .int (I32 x3)] S n mu la (Lq S (-10000001) mu la) := by
  refine Ct.ofH (cc := cL_leasts) (nL := 5) (ret := some .int) (hh := [(0, 7, 8, 126), (0, 7, 13, 115)]) [some (.ref a), some (.int (I32 x1)), some (.int (I32 x2)), some (.int (I32 x3)), none] hG (by decide) rfl (Nat.le_of_ble_eq_true rfl) rfl ?_
  rintro X rfl rfl C ht hcl hsl E
  have hN := hGN _ C.pe.2.2
  refine V_aload_n C dL_leasts_0 rfl ?_
  refine V_iload_n C dL_leasts_1 rfl ?_
  refine V_iload_n C dL_leasts_2 rfl ?_
  refine V_iload_n C dL_leasts_3 rfl ?_
  refine V_callVC (nA := 3) C dL_leasts_4 hM gL_leasts_X8_setLeast rfl hA rfl (by decide +kernel) rfl (by omega) (by decide) (Nat.le_of_ble_eq_true rfl) ⟨by omega, by omega⟩ rfl (name := xE1) [] ⟨0, 7, 8, 126⟩ [⟨0, 7, 13, 115⟩] ht ?_ (by decide) (by decide) (C.ts _ (by decide +kernel)) (cast_self hN.1.1) (fun q9 n9 => ?_)
  · exact fun _ h9 => absurd h9 List.not_mem_nil
  · refine V_astore C dL_leasts_8 rfl (by decide) ?_
    refine V_ldcI C (v := -10000001) dL_leasts_10 (by decide +kernel) ?_
    exact V_ireturn C E dL_leasts_12 (by omega) (by omega) ⟨rfl, rfl, rfl, rfl⟩
theorem L_leasts_x2 (hG : GP G) (hGN : GN G) (hA : hasS S a (.inr (.inr (6, ks)))) {x1 x2 x3 : Int} (hM : CtX G l yX8_setLeast wsX8_setLeast 7 [.ref a, .int (I32 x1), .int (I32 x2), .int (I32 x3)] S n mu la xE2) : Ct G l yL_leasts wsL_leasts 8 1 6 [.ref a, .int (I32 x1), .int (I32 x2), .int (I32 x3)] S n mu la (Lq S (-10000002) mu la) := by
  refine Ct.ofH (cc := cL_leasts) (nL := 5) (ret := some .int) (hh := [(0, 7, 8, 126), (0, 7, 13, 115)]) [some (.ref a), some (.int (I32 x1)), some (.int (I32 x2)), some (.int (I32 x3)), none] hG (by decide) rfl (Nat.le_of_ble_eq_true rfl) rfl ?_
  rintro X rfl rfl C ht hcl hsl E
  have hN := hGN _ C.pe.2.2
  refine V_aload_n C dL_leasts_0 rfl ?_
  refine V_iload_n C dL_leasts_1 rfl ?_
  refine V_iload_n C dL_leasts_2 rfl ?_
  refine V_iload_n C dL_leasts_3 rfl ?_
  refine V_callVC (nA := 3) C dL_leasts_4 hM gL_leasts_X8_setLeast rfl hA rfl (by decide +kernel) rfl (by omega) (by decide) (Nat.le_of_ble_eq_true rfl) ⟨by omega, by omega⟩ rfl (name := xE2) [⟨0, 7, 8, 126⟩] ⟨0, 7, 13, 115⟩ [] ht ?_ (by decide) (by decide) (C.ts _ (by decide +kernel)) (cast_self hN.2.1.1) (fun q9 n9 => ?_)
  · exact List.forall_mem_cons.mpr ⟨Or.inr ⟨by decide, xE1, C.ts _ (by decide +kernel), hN.2.1.1⟩, fun _ h9 => absurd h9 List.not_mem_nil⟩
  · refine V_astore C dL_leasts_13 rfl (by decide) ?_
    refine V_ldcI C (v := -10000002) dL_leasts_15 (by decide +kernel) ?_
    exact V_ireturn C E dL_leasts_17 (by omega) (by omega) ⟨rfl, rfl, rfl, rfl⟩
theorem L_leasts (hG : GP G) (hGN : GN G) (hA : hasS S a (.inr (.inr (6, ks)))) (hfc : fc ≤ 7) {x1 x2 x3 : Int} {f : Int} (hc : f = 0 ∨ f = 1 ∨ f = 2) (h0 : f = 0 → Ct G l yX8_setLeast wsX8_setLeast fc 0 0 [.ref a, .int (I32 x1), .int (I32 x2), .int (I32 x3)] S n mu la (Dt (some (.int (I32 v))) S n mu' la)) (h1 : f ≠ 0 → CtX G l yX8_setLeast wsX8_setLeast 7 [.ref a, .int (I32 x1), .int (I32 x2), .int (I32 x3)] S n mu la (exn f)) :
    Ct G l yL_leasts wsL_leasts 8 1 6 [.ref a, .int (I32 x1), .int (I32 x2), .int (I32 x3)] S n mu la (Lq S (if f = 0 then v else -10000000 - f) (if f = 0 then mu' else mu) la) := by
  rcases hc with rfl | rfl | rfl
  · exact L_leasts_o hG hA hfc (h0 rfl)
  · exact L_leasts_x1 hG hGN hA (h1 (by decide))
  · exact L_leasts_x2 hG hGN hA (h1 (by decide))
set_option maxRecDepth 20000 in
theorem ggL_docks_X8_dock : GoodIn wsL_docks wsX8_dock := goodIn_ca (goodIn_ca (goodIn_ca (goodIn_r _ [11, 12, 13, 14, 15, 16, 10, 17, 18, 19, 20, 21, 22, 23, 24, 25, 26, 27, 28, 29, 30, 31, 32, 33, 34, 35, 36, 37, 38, 39, 40, 41, 42, 43, 44, 45, 46, 47, 48, 49, 50, 51, 52, 53, 54, 55, 56, 57, 58, 59, 60, 61, 62, 63, 64, 65, 66, 67, 68, 69, 70, 71, 72, 73, 74, 75, 76, 77, 78, 79, 80, 81, 82, 83, 84, 85, 86, 87, 88, 89, 90, 91, 92, 93, 94, 95, 96, 97, 98, 99, 100, 101, 102, 103, 104, 105, 106, 107, 108, 109, 110, 111, 112, 113, 114, 115, 116, 117, 118, 119, 120, 121, 122, 123, 124, 125, 126, 127, 128, 129, 130, 131, 132, 133, 134, 135, 136, 137, 138, 139, 140, 141, 142, 143, 144, 145, 146, 147, 148, 149, 150, 151, 152, 153, 154, 155, 156, 157, 158, 159, 160, 161, 162, 163, 164, 165, 166, 167, 168, 169, 170, 171, 172, 173, 174, 175, 176, 177, 178, 179, 180, 181, 182, 183, 184, 185, 186, 187, 188, 189, 190, 191, 192, 193, 194, 195, 196, 197, 198, 199, 200, 201, 202, 203, 204, 205, 206, 207, 208, 209, 210, 211, 212, 213, 214, 215, 216, 217, 218, 219, 220, 221, 222, 223, 224, 225, 226, 227, 228, 229, 230, 231, 232, 233, 234, 235, 236, 237, 238, 239, 240, 241, 242, 243, 244, 245, 246, 247, 248, 249, 250, 251, 252, 253, 254, 255, 256, 257, 258, 259, 260, 261, 262, 263, 264, 265, 266, 267, 268, 269, 270, 271, 272, 273, 274, 275, 276, 277, 278, 279, 280, 281, 282, 283, 284, 285, 286, 287, 288, 289, 290, 291, 292, 293, 294, 295, 296, 297, 298, 299, 300, 301, 302, 303, 304, 305, 306, 307, 308, 309, 310, 311, 312, 313, 314, 315, 316, 317, 318, 319, 320, 321, 322, 323, 324, 325, 326, 327, 328, 329, 330, 331, 332, 333, 334, 335, 336, 337, 338, 339, 340, 341, 342, 343, 344, 345, 346] (by decide +kernel) (by decide +kernel)) (goodIn_sub (fun _ h => List.mem_cons_of_mem _ (List.mem_append_left _ (List.mem_append_left _ (List.mem_append_right _ h)))) (by decide +kernel))) (goodIn_sub (fun _ h => List.mem_cons_of_mem _ (List.mem_append_left _ (List.mem_append_right _ h))) (by decide +kernel))) (goodIn_sub (fun _ h => List.mem_cons_of_mem _ (List.mem_append_right _ h)) (by decide +kernel))
set_option maxRecDepth 20000 in
theorem gL_docks_X8_dock : GoodIn wsL_docks (wsV RL 129 RX8 yX8_dock wsX8_dock) := goodIn_app (goodIn_of _ (by decide +kernel)) ggL_docks_X8_dock
theorem dL_docks_0 : decode cL_docks 0 = .ok (.aload_n 0, 1) := by decide +kernel
theorem dL_docks_1 : decode cL_docks 1 = .ok (.iload_n 1, 1) := by decide +kernel
theorem dL_docks_2 : decode cL_docks 2 = .ok (.iload_n 2, 1) := by decide +kernel
theorem dL_docks_3 : decode cL_docks 3 = .ok (.iload_n 3, 1) := by decide +kernel
theorem dL_docks_4 : decode cL_docks 4 = .ok (.invokevirtual 129, 3) := by decide +kernel
theorem dL_docks_7 : decode cL_docks 7 = .ok (.ireturn, 1) := by decide +kernel
theorem dL_docks_8 : decode cL_docks 8 = .ok (.astore 4, 2) := by decide +kernel
theorem dL_docks_10 : decode cL_docks 10 = .ok (.ldc 128, 2) := by decide +kernel
theorem dL_docks_12 : decode cL_docks 12 = .ok (.ireturn, 1) := by decide +kernel
theorem dL_docks_13 : decode cL_docks 13 = .ok (.astore 4, 2) := by decide +kernel
theorem dL_docks_15 : decode cL_docks 15 = .ok (.ldc 103, 2) := by decide +kernel
theorem dL_docks_17 : decode cL_docks 17 = .ok (.ireturn, 1) := by decide +kernel
theorem dL_docks_18 : decode cL_docks 18 = .ok (.astore 4, 2) := by decide +kernel
theorem dL_docks_20 : decode cL_docks 20 = .ok (.ldc 77, 2) := by decide +kernel
theorem dL_docks_22 : decode cL_docks 22 = .ok (.ireturn, 1) := by decide +kernel
theorem L_docks_k (hG : GP G) (hA : hasS S a (.inr (.inr (6, ks)))) (hfc : fc ≤ 7) {x1 x2 x3 : Int} (hM : Ct G l yX8_dock wsX8_dock fc 0 0 [.ref a, .int (I32 x1), .int (I32 x2), .int (I32 x3)] S n mu la (Dt (some (.int (I32 v))) S n mu' la)) : Ct G l yL_docks wsL_docks 8 0 0 [.ref a, .int (I32 x1), .int (I32 x2), .int (I32 x3)] S n mu la (Dt (some (.int (I32 v))) S n mu' la) := by
  refine Ct.ofH (cc := cL_docks) (nL := 5) (ret := some .int) (hh := [(0, 7, 8, 126), (0, 7, 13, 115), (0, 7, 18, 120)]) [some (.ref a), some (.int (I32 x1)), some (.int (I32 x2)), some (.int (I32 x3)), none] hG (by decide) rfl (Nat.le_of_ble_eq_true rfl) rfl ?_
  rintro X rfl rfl C ht hcl hsl E
  refine V_aload_n C dL_docks_0 rfl ?_
  refine V_iload_n C dL_docks_1 rfl ?_
  refine V_iload_n C dL_docks_2 rfl ?_
  refine V_iload_n C dL_docks_3 rfl ?_
  refine V_callVD (nA := 3) C dL_docks_4 hM gL_docks_X8_dock rfl hA rfl (by decide +kernel) rfl (by omega) (by decide) (Nat.le_of_ble_eq_true rfl) ⟨by omega, by omega⟩ rfl ?_
  exact V_ireturn C E dL_docks_7 (by omega) (by omega) Dt_rfl
theorem L_docks_o (hG : GP G) (hA : hasS S a (.inr (.inr (6, ks)))) (hfc : fc ≤ 7) {x1 x2 x3 : Int} (hM : Ct G l yX8_dock wsX8_dock fc 0 0 [.ref a, .int (I32 x1), .int (I32 x2), .int (I32 x3)] S n mu la (Dt (some (.int (I32 v))) S n mu' la)) : Ct G l yL_docks wsL_docks 8 1 6 [.ref a, .int (I32 x1), .int (I32 x2), .int (I32 x3)] S n mu la (Lq S v mu' la) := by
  refine Ct.ofH (cc := cL_docks) (nL := 5) (ret := some .int) (hh := [(0, 7, 8, 126), (0, 7, 13, 115), (0, 7, 18, 120)]) [some (.ref a), some (.int (I32 x1)), some (.int (I32 x2)), some (.int (I32 x3)), none] hG (by decide) rfl (Nat.le_of_ble_eq_true rfl) rfl ?_
  rintro X rfl rfl C ht hcl hsl E
  refine V_aload_n C dL_docks_0 rfl ?_
  refine V_iload_n C dL_docks_1 rfl ?_
  refine V_iload_n C dL_docks_2 rfl ?_
  refine V_iload_n C dL_docks_3 rfl ?_
  refine V_callVD (nA := 3) C dL_docks_4 hM gL_docks_X8_dock rfl hA rfl (by decide +kernel) rfl (by omega) (by decide) (Nat.le_of_ble_eq_true rfl) ⟨by omega, by omega⟩ rfl ?_
  exact V_ireturn C E dL_docks_7 (by omega) (by omega) ⟨rfl, rfl, rfl, rfl⟩
theorem L_docks_x1 (hG : GP G) (hGN : GN G) (hA : hasS S a (.inr (.inr (6, ks)))) {x1 x2 x3 : Int} (hM : CtX G l yX8_dock wsX8_dock 7 [.ref a, .int (I32 x1), .int (I32 x2), .int (I32 x3)] S n mu la xE1) : Ct G l yL_docks wsL_docks 8 1 6 [.ref a, .int (I32 x1), .int (I32 x2), .int (I32 x3)] S n mu la (Lq S (-10000001) mu la) := by
  refine Ct.ofH (cc := cL_docks) (nL := 5) (ret := some .int) (hh := [(0, 7, 8, 126), (0, 7, 13, 115), (0, 7, 18, 120)]) [some (.ref a), some (.int (I32 x1)), some (.int (I32 x2)), some (.int (I32 x3)), none] hG (by decide) rfl (Nat.le_of_ble_eq_true rfl) rfl ?_
  rintro X rfl rfl C ht hcl hsl E
  have hN := hGN _ C.pe.2.2
  refine V_aload_n C dL_docks_0 rfl ?_
  refine V_iload_n C dL_docks_1 rfl ?_
  refine V_iload_n C dL_docks_2 rfl ?_
  refine V_iload_n C dL_docks_3 rfl ?_
  refine V_callVC (nA := 3) C dL_docks_4 hM gL_docks_X8_dock rfl hA rfl (by decide +kernel) rfl (by omega) (by decide) (Nat.le_of_ble_eq_true rfl) ⟨by omega, by omega⟩ rfl (name := xE1) [] ⟨0, 7, 8, 126⟩ [⟨0, 7, 13, 115⟩, ⟨0, 7, 18, 120⟩] ht ?_ (by decide) (by decide) (C.ts _ (by decide +kernel)) (cast_self hN.1.1) (fun q9 n9 => ?_)
  · exact fun _ h9 => absurd h9 List.not_mem_nil
  · refine V_astore C dL_docks_8 rfl (by decide) ?_
    refine V_ldcI C (v := -10000001) dL_docks_10 (by decide +kernel) ?_
    exact V_ireturn C E dL_docks_12 (by omega) (by omega) ⟨rfl, rfl, rfl, rfl⟩
theorem L_docks_x2 (hG : GP G) (hGN : GN G) (hA : hasS S a (.inr (.inr (6, ks)))) {x1 x2 x3 : Int} (hM : CtX G l yX8_dock wsX8_dock 7 [.ref a, .int (I32 x1), .int (I32 x2), .int (I32 x3)] S n mu la xE2) : Ct G l yL_docks wsL_docks 8 1 6 [.ref a, .int (I32 x1), .int (I32 x2), .int (I32 x3)] S n mu la (Lq S (-10000002) mu la) := by
  refine Ct.ofH (cc := cL_docks) (nL := 5) (ret := some .int) (hh := [(0, 7, 8, 126), (0, 7, 13, 115), (0, 7, 18, 120)]) [some (.ref a), some (.int (I32 x1)), some (.int (I32 x2)), some (.int (I32 x3)), none] hG (by decide) rfl (Nat.le_of_ble_eq_true rfl) rfl ?_
  rintro X rfl rfl C ht hcl hsl E
  have hN := hGN _ C.pe.2.2
  refine V_aload_n C dL_docks_0 rfl ?_
  refine V_iload_n C dL_docks_1 rfl ?_
  refine V_iload_n C dL_docks_2 rfl ?_
  refine V_iload_n C dL_docks_3 rfl ?_
  refine V_callVC (nA := 3) C dL_docks_4 hM gL_docks_X8_dock rfl hA rfl (by decide +kernel) rfl (by omega) (by decide) (Nat.le_of_ble_eq_true rfl) ⟨by omega, by omega⟩ rfl (name := xE2) [⟨0, 7, 8, 126⟩] ⟨0, 7, 13, 115⟩ [⟨0, 7, 18, 120⟩] ht ?_ (by decide) (by decide) (C.ts _ (by decide +kernel)) (cast_self hN.2.1.1) (fun q9 n9 => ?_)
  · exact List.forall_mem_cons.mpr ⟨Or.inr ⟨by decide, xE1, C.ts _ (by decide +kernel), hN.2.1.1⟩, fun _ h9 => absurd h9 List.not_mem_nil⟩
  · refine V_astore C dL_docks_13 rfl (by decide) ?_
    refine V_ldcI C (v := -10000002) dL_docks_15 (by decide +kernel) ?_
    exact V_ireturn C E dL_docks_17 (by omega) (by omega) ⟨rfl, rfl, rfl, rfl⟩
theorem L_docks_x3 (hG : GP G) (hGN : GN G) (hA : hasS S a (.inr (.inr (6, ks)))) {x1 x2 x3 : Int} (hM : CtX G l yX8_dock wsX8_dock 7 [.ref a, .int (I32 x1), .int (I32 x2), .int (I32 x3)] S n mu la xE3) : Ct G l yL_docks wsL_docks 8 1 6 [.ref a, .int (I32 x1), .int (I32 x2), .int (I32 x3)] S n mu la (Lq S (-10000003) mu la) := by
  refine Ct.ofH (cc := cL_docks) (nL := 5) (ret := some .int) (hh := [(0, 7, 8, 126), (0, 7, 13, 115), (0, 7, 18, 120)]) [some (.ref a), some (.int (I32 x1)), some (.int (I32 x2)), some (.int (I32 x3)), none] hG (by decide) rfl (Nat.le_of_ble_eq_true rfl) rfl ?_
  rintro X rfl rfl C ht hcl hsl E
  have hN := hGN _ C.pe.2.2
  refine V_aload_n C dL_docks_0 rfl ?_
  refine V_iload_n C dL_docks_1 rfl ?_
  refine V_iload_n C dL_docks_2 rfl ?_
  refine V_iload_n C dL_docks_3 rfl ?_
  refine V_callVC (nA := 3) C dL_docks_4 hM gL_docks_X8_dock rfl hA rfl (by decide +kernel) rfl (by omega) (by decide) (Nat.le_of_ble_eq_true rfl) ⟨by omega, by omega⟩ rfl (name := xE3) [⟨0, 7, 8, 126⟩, ⟨0, 7, 13, 115⟩] ⟨0, 7, 18, 120⟩ [] ht ?_ (by decide) (by decide) (C.ts _ (by decide +kernel)) (cast_self hN.2.2.1) (fun q9 n9 => ?_)
  · exact List.forall_mem_cons.mpr ⟨Or.inr ⟨by decide, xE1, C.ts _ (by decide +kernel), hN.2.2.1⟩, List.forall_mem_cons.mpr ⟨Or.inr ⟨by decide, xE2, C.ts _ (by decide +kernel), hN.2.2.2⟩, fun _ h9 => absurd h9 List.not_mem_nil⟩⟩
  · refine V_astore C dL_docks_18 rfl (by decide) ?_
    refine V_ldcI C (v := -10000003) dL_docks_20 (by decide +kernel) ?_
    exact V_ireturn C E dL_docks_22 (by omega) (by omega) ⟨rfl, rfl, rfl, rfl⟩
theorem L_docks (hG : GP G) (hGN : GN G) (hA : hasS S a (.inr (.inr (6, ks)))) (hfc : fc ≤ 7) {x1 x2 x3 : Int} {f : Int} (hc : f = 0 ∨ f = 1 ∨ f = 2 ∨ f = 3) (h0 : f = 0 → Ct G l yX8_dock wsX8_dock fc 0 0 [.ref a, .int (I32 x1), .int (I32 x2), .int (I32 x3)] S n mu la (Dt (some (.int (I32 v))) S n mu' la)) (h1 : f ≠ 0 → CtX G l yX8_dock wsX8_dock 7 [.ref a, .int (I32 x1), .int (I32 x2), .int (I32 x3)] S n mu la (exn f)) :
    Ct G l yL_docks wsL_docks 8 1 6 [.ref a, .int (I32 x1), .int (I32 x2), .int (I32 x3)] S n mu la (Lq S (if f = 0 then v else -10000000 - f) (if f = 0 then mu' else mu) la) := by
  rcases hc with rfl | rfl | rfl | rfl
  · exact L_docks_o hG hA hfc (h0 rfl)
  · exact L_docks_x1 hG hGN hA (h1 (by decide))
  · exact L_docks_x2 hG hGN hA (h1 (by decide))
  · exact L_docks_x3 hG hGN hA (h1 (by decide))
set_option maxRecDepth 20000 in
theorem ggL_edges_X8_dockAtEdge : GoodIn wsL_edges wsX8_dockAtEdge := goodIn_ca (goodIn_ca (goodIn_ca (goodIn_r _ [9, 10, 11, 12, 13, 14, 15, 8, 16, 17, 18, 19, 20, 21, 22, 23, 24, 25, 26, 27, 28, 29, 30, 31, 32, 33, 34, 35, 36, 37, 38, 39, 40, 41, 42, 43, 44, 45, 46, 47, 48, 49, 50, 51, 52, 53, 54, 55, 56, 57, 58, 59, 60, 61, 62, 63, 64, 65, 66, 67, 68, 69, 70, 71, 72, 73, 74, 75, 76, 77, 78, 79, 80, 81, 82, 83, 84, 85, 86, 87, 88, 89, 90, 91, 92, 93, 94, 95, 96, 97, 98, 99, 100, 101, 102, 103, 104, 105, 106, 107, 108, 109, 110, 111, 112, 113, 114, 115, 116, 117, 118, 119, 120, 121, 122, 123, 124, 125, 126, 127, 128, 129, 130, 131, 132, 133, 134, 135, 136, 137, 138, 139, 140, 141, 142, 143, 144, 145, 146, 147, 148, 149, 150, 151, 152, 153, 154, 155, 156, 157, 158, 159, 160, 161, 162, 163, 164, 165, 166, 167, 168, 169, 170, 171, 172, 173, 174, 175, 176, 177, 178, 179, 180, 181, 182, 183, 184, 185, 186, 187, 188, 189, 190, 191, 192, 193, 194, 195, 196, 197, 198, 199, 200, 201, 202, 203, 204, 205, 206, 207, 208, 209, 210, 211, 212, 213, 214, 215, 216, 217, 218, 219, 220, 221, 222, 223, 224, 225, 226, 227, 228, 229, 230, 231, 232, 233, 234, 235, 236, 237, 238, 239, 240, 241, 242, 243, 244, 245, 246, 247, 248, 249, 250, 251, 252, 253, 254, 255, 256, 257, 258, 259, 260, 261, 262, 263, 264, 265, 266, 267, 268, 269, 270, 271, 272, 273, 274, 275, 276, 277, 278, 279, 280, 281, 282, 283, 284, 285, 286, 287, 288, 289, 290, 291, 292, 293, 294, 295, 296, 297, 298, 299, 300, 301, 302, 303, 304, 305, 306, 307, 308, 309, 310, 311, 312, 313, 314, 315, 316, 317, 318, 319, 320, 321, 322, 323, 324, 325, 326, 327, 328, 329, 330, 331, 332, 333, 334, 335, 336, 337, 338, 339, 340, 341, 342, 343, 344, 345] (by decide +kernel) (by decide +kernel)) (goodIn_sub (fun _ h => List.mem_cons_of_mem _ (List.mem_append_left _ (List.mem_append_left _ (List.mem_append_right _ h)))) (by decide +kernel))) (goodIn_sub (fun _ h => List.mem_cons_of_mem _ (List.mem_append_left _ (List.mem_append_right _ h))) (by decide +kernel))) (goodIn_sub (fun _ h => List.mem_cons_of_mem _ (List.mem_append_right _ h)) (by decide +kernel))
set_option maxRecDepth 20000 in
theorem gL_edges_X8_dockAtEdge : GoodIn wsL_edges (wsV RL 132 RX8 yX8_dockAtEdge wsX8_dockAtEdge) := goodIn_app (goodIn_of _ (by decide +kernel)) ggL_edges_X8_dockAtEdge
theorem dL_edges_0 : decode cL_edges 0 = .ok (.aload_n 0, 1) := by decide +kernel
theorem dL_edges_1 : decode cL_edges 1 = .ok (.iload_n 1, 1) := by decide +kernel
theorem dL_edges_2 : decode cL_edges 2 = .ok (.iload_n 2, 1) := by decide +kernel
theorem dL_edges_3 : decode cL_edges 3 = .ok (.invokevirtual 132, 3) := by decide +kernel
theorem dL_edges_6 : decode cL_edges 6 = .ok (.ireturn, 1) := by decide +kernel
theorem dL_edges_7 : decode cL_edges 7 = .ok (.astore_n 3, 1) := by decide +kernel
theorem dL_edges_8 : decode cL_edges 8 = .ok (.ldc 128, 2) := by decide +kernel
theorem dL_edges_10 : decode cL_edges 10 = .ok (.ireturn, 1) := by decide +kernel
theorem dL_edges_11 : decode cL_edges 11 = .ok (.astore_n 3, 1) := by decide +kernel
theorem dL_edges_12 : decode cL_edges 12 = .ok (.ldc 103, 2) := by decide +kernel
theorem dL_edges_14 : decode cL_edges 14 = .ok (.ireturn, 1) := by decide +kernel
theorem L_edges_k (hG : GP G) (hA : hasS S a (.inr (.inr (6, ks)))) (hfc : fc ≤ 7) {x1 x2 : Int} (hM : Ct G l yX8_dockAtEdge wsX8_dockAtEdge fc 0 0 [.ref a, .int (I32 x1), .int (I32 x2)] S n mu la (Dt (some (.int (I32 v))) S n mu' la)) : Ct G l yL_edges wsL_edges 8 0 0 [.ref a, .int (I32 x1), .int (I32 x2)] S n mu la (Dt (some (.int (I32 v))) S n mu' la) := by
  refine Ct.ofH (cc := cL_edges) (nL := 4) (ret := some .int) (hh := [(0, 6, 7, 126), (0, 6, 11, 115)]) [some (.ref a), some (.int (I32 x1)), some (.int (I32 x2)), none] hG (by decide) rfl (Nat.le_of_ble_eq_true rfl) rfl ?_
  rintro X rfl rfl C ht hcl hsl E
  refine V_aload_n C dL_edges_0 rfl ?_
  refine V_iload_n C dL_edges_1 rfl ?_
  refine V_iload_n C dL_edges_2 rfl ?_
  refine V_callVD (nA := 2) C dL_edges_3 hM gL_edges_X8_dockAtEdge rfl hA rfl (by decide +kernel) rfl (by omega) (by decide) (Nat.le_of_ble_eq_true rfl) ⟨by omega, by omega⟩ rfl ?_
  exact V_ireturn C E dL_edges_6 (by omega) (by omega) Dt_rfl
theorem L_edges_o (hG : GP G) (hA : hasS S a (.inr (.inr (6, ks)))) (hfc : fc ≤ 7) {x1 x2 : Int} (hM : Ct G l yX8_dockAtEdge wsX8_dockAtEdge fc 0 0 [.ref a, .int (I32 x1), .int (I32 x2)] S n mu la (Dt (some (.int (I32 v))) S n mu' la)) : Ct G l yL_edges wsL_edges 8 1 6 [.ref a, .int (I32 x1), .int (I32 x2)] S n mu la (Lq S v mu' la) := by
  refine Ct.ofH (cc := cL_edges) (nL := 4) (ret := some .int) (hh := [(0, 6, 7, 126), (0, 6, 11, 115)]) [some (.ref a), some (.int (I32 x1)), some (.int (I32 x2)), none] hG (by decide) rfl (Nat.le_of_ble_eq_true rfl) rfl ?_
  rintro X rfl rfl C ht hcl hsl E
  refine V_aload_n C dL_edges_0 rfl ?_
  refine V_iload_n C dL_edges_1 rfl ?_
  refine V_iload_n C dL_edges_2 rfl ?_
  refine V_callVD (nA := 2) C dL_edges_3 hM gL_edges_X8_dockAtEdge rfl hA rfl (by decide +kernel) rfl (by omega) (by decide) (Nat.le_of_ble_eq_true rfl) ⟨by omega, by omega⟩ rfl ?_
  exact V_ireturn C E dL_edges_6 (by omega) (by omega) ⟨rfl, rfl, rfl, rfl⟩
theorem L_edges_x1 (hG : GP G) (hGN : GN G) (hA : hasS S a (.inr (.inr (6, ks)))) {x1 x2 : Int} (hM : CtX G l yX8_dockAtEdge wsX8_dockAtEdge 7 [.ref a, .int (I32 x1), .int (I32 x2)] S n mu la xE1) : Ct G l yL_edges wsL_edges 8 1 6 [.ref a, .int (I32 x1), .int (I32 x2)] S n mu la (Lq S (-10000001) mu la) := by
  refine Ct.ofH (cc := cL_edges) (nL := 4) (ret := some .int) (hh := [(0, 6, 7, 126), (0, 6, 11, 115)]) [some (.ref a), some (.int (I32 x1)), some (.int (I32 x2)), none] hG (by decide) rfl (Nat.le_of_ble_eq_true rfl) rfl ?_
  rintro X rfl rfl C ht hcl hsl E
  have hN := hGN _ C.pe.2.2
  refine V_aload_n C dL_edges_0 rfl ?_
  refine V_iload_n C dL_edges_1 rfl ?_
  refine V_iload_n C dL_edges_2 rfl ?_
  refine V_callVC (nA := 2) C dL_edges_3 hM gL_edges_X8_dockAtEdge rfl hA rfl (by decide +kernel) rfl (by omega) (by decide) (Nat.le_of_ble_eq_true rfl) ⟨by omega, by omega⟩ rfl (name := xE1) [] ⟨0, 6, 7, 126⟩ [⟨0, 6, 11, 115⟩] ht ?_ (by decide) (by decide) (C.ts _ (by decide +kernel)) (cast_self hN.1.1) (fun q9 n9 => ?_)
  · exact fun _ h9 => absurd h9 List.not_mem_nil
  · refine V_astore_n C dL_edges_7 rfl (by decide) ?_
    refine V_ldcI C (v := -10000001) dL_edges_8 (by decide +kernel) ?_
    exact V_ireturn C E dL_edges_10 (by omega) (by omega) ⟨rfl, rfl, rfl, rfl⟩
theorem L_edges_x2 (hG : GP G) (hGN : GN G) (hA : hasS S a (.inr (.inr (6, ks)))) {x1 x2 : Int} (hM : CtX G l yX8_dockAtEdge wsX8_dockAtEdge 7 [.ref a, .int (I32 x1), .int (I32 x2)] S n mu la xE2) : Ct G l yL_edges wsL_edges 8 1 6 [.ref a, .int (I32 x1), .int (I32 x2)] S n mu la (Lq S (-10000002) mu la) := by
  refine Ct.ofH (cc := cL_edges) (nL := 4) (ret := some .int) (hh := [(0, 6, 7, 126), (0, 6, 11, 115)]) [some (.ref a), some (.int (I32 x1)), some (.int (I32 x2)), none] hG (by decide) rfl (Nat.le_of_ble_eq_true rfl) rfl ?_
  rintro X rfl rfl C ht hcl hsl E
  have hN := hGN _ C.pe.2.2
  refine V_aload_n C dL_edges_0 rfl ?_
  refine V_iload_n C dL_edges_1 rfl ?_
  refine V_iload_n C dL_edges_2 rfl ?_
  refine V_callVC (nA := 2) C dL_edges_3 hM gL_edges_X8_dockAtEdge rfl hA rfl (by decide +kernel) rfl (by omega) (by decide) (Nat.le_of_ble_eq_true rfl) ⟨by omega, by omega⟩ rfl (name := xE2) [⟨0, 6, 7, 126⟩] ⟨0, 6, 11, 115⟩ [] ht ?_ (by decide) (by decide) (C.ts _ (by decide +kernel)) (cast_self hN.2.1.1) (fun q9 n9 => ?_)
  · exact List.forall_mem_cons.mpr ⟨Or.inr ⟨by decide, xE1, C.ts _ (by decide +kernel), hN.2.1.1⟩, fun _ h9 => absurd h9 List.not_mem_nil⟩
  · refine V_astore_n C dL_edges_11 rfl (by decide) ?_
    refine V_ldcI C (v := -10000002) dL_edges_12 (by decide +kernel) ?_
    exact V_ireturn C E dL_edges_14 (by omega) (by omega) ⟨rfl, rfl, rfl, rfl⟩
theorem L_edges (hG : GP G) (hGN : GN G) (hA : hasS S a (.inr (.inr (6, ks)))) (hfc : fc ≤ 7) {x1 x2 : Int} {f : Int} (hc : f = 0 ∨ f = 1 ∨ f = 2) (h0 : f = 0 → Ct G l yX8_dockAtEdge wsX8_dockAtEdge fc 0 0 [.ref a, .int (I32 x1), .int (I32 x2)] S n mu la (Dt (some (.int (I32 v))) S n mu' la)) (h1 : f ≠ 0 → CtX G l yX8_dockAtEdge wsX8_dockAtEdge 7 [.ref a, .int (I32 x1), .int (I32 x2)] S n mu la (exn f)) :
    Ct G l yL_edges wsL_edges 8 1 6 [.ref a, .int (I32 x1), .int (I32 x2)] S n mu la (Lq S (if f = 0 then v else -10000000 - f) (if f = 0 then mu' else mu) la) := by
  rcases hc with rfl | rfl | rfl
  · exact L_edges_o hG hA hfc (h0 rfl)
  · exact L_edges_x1 hG hGN hA (h1 (by decide))
  · exact L_edges_x2 hG hGN hA (h1 (by decide))
set_option maxRecDepth 20000 in
theorem ggL_floats_X8_floatAt : GoodIn wsL_floats wsX8_floatAt := goodIn_ca (goodIn_ca (goodIn_ca (goodIn_r _ [9, 10, 11, 12, 13, 14, 8, 15, 16, 17, 18, 19, 20, 21, 22, 23, 24, 25, 26, 27, 28, 29, 30, 31, 32, 33, 34, 35, 36, 37, 38, 39, 40, 41, 42, 43, 44, 45, 46, 47, 48, 49, 50, 51, 52, 53, 54, 55, 56, 57, 58, 59, 60, 61, 62, 63, 64, 65, 66, 67, 68, 69, 70, 71, 72, 73, 74, 75, 76, 77, 78, 79, 80, 81, 82, 83, 84, 85, 86, 87, 88, 89, 90, 91, 92, 93, 94, 95, 96, 97, 98, 99, 100, 101, 102, 103, 104, 105, 106, 107, 108, 109, 110, 111, 112, 113, 114, 115, 116, 117, 118, 119, 120, 121, 122, 123, 124, 125, 126, 127, 128, 129, 130, 131, 132, 133, 134, 135, 136, 137, 138, 139, 140, 141, 142, 143, 144, 145, 146, 147, 148, 149, 150, 151, 152, 153, 154, 155, 156, 157, 158, 159, 160, 161, 162, 163, 164, 165, 166, 167, 168, 169, 170, 171, 172, 173, 174, 175, 176, 177, 178, 179, 180, 181, 182, 183, 184, 185, 186, 187, 188, 189, 190, 191, 192, 193, 194, 195, 196, 197, 198, 199, 200, 201, 202, 203, 204, 205, 206, 207, 208, 209, 210, 211, 212, 213, 214, 215, 216, 217, 218, 219, 220, 221, 222, 223, 224, 225, 226, 227, 228, 229, 230, 231, 232, 233, 234, 235, 236, 237, 238, 239, 240, 241, 242, 243, 244, 245, 246, 247, 248, 249, 250, 251, 252, 253, 254, 255, 256, 257, 258, 259, 260, 261, 262, 263, 264, 265, 266, 267, 268, 269, 270, 271, 272, 273, 274, 275, 276, 277, 278, 279, 280, 281, 282, 283, 284, 285, 286, 287, 288, 289, 290, 291, 292, 293, 294, 295, 296, 297, 298, 299, 300, 301, 302, 303, 304, 305, 306, 307, 308, 309, 310, 311, 312, 313, 314, 315, 316, 317, 318, 319, 320, 321, 322, 323, 324] (by decide +kernel) (by decide +kernel)) (goodIn_sub (fun _ h => List.mem_cons_of_mem _ (List.mem_append_left _ (List.mem_append_left _ (List.mem_append_right _ h)))) (by decide +kernel))) (goodIn_sub (fun _ h => List.mem_cons_of_mem _ (List.mem_append_left _ (List.mem_append_right _ h))) (by decide +kernel))) (goodIn_sub (fun _ h => List.mem_cons_of_mem _ (List.mem_append_right _ h)) (by decide +kernel))
set_option maxRecDepth 20000 in
theorem gL_floats_X8_floatAt : GoodIn wsL_floats (wsV RL 135 RX8 yX8_floatAt wsX8_floatAt) := goodIn_app (goodIn_of _ (by decide +kernel)) ggL_floats_X8_floatAt
theorem dL_floats_0 : decode cL_floats 0 = .ok (.aload_n 0, 1) := by decide +kernel
theorem dL_floats_1 : decode cL_floats 1 = .ok (.iload_n 1, 1) := by decide +kernel
theorem dL_floats_2 : decode cL_floats 2 = .ok (.iload_n 2, 1) := by decide +kernel
theorem dL_floats_3 : decode cL_floats 3 = .ok (.iload_n 3, 1) := by decide +kernel
theorem dL_floats_4 : decode cL_floats 4 = .ok (.iload 4, 2) := by decide +kernel
theorem dL_floats_6 : decode cL_floats 6 = .ok (.iload 5, 2) := by decide +kernel
theorem dL_floats_8 : decode cL_floats 8 = .ok (.invokevirtual 135, 3) := by decide +kernel
theorem dL_floats_11 : decode cL_floats 11 = .ok (.ireturn, 1) := by decide +kernel
theorem dL_floats_12 : decode cL_floats 12 = .ok (.astore 6, 2) := by decide +kernel
theorem dL_floats_14 : decode cL_floats 14 = .ok (.ldc 128, 2) := by decide +kernel
theorem dL_floats_16 : decode cL_floats 16 = .ok (.ireturn, 1) := by decide +kernel
theorem dL_floats_17 : decode cL_floats 17 = .ok (.astore 6, 2) := by decide +kernel
theorem dL_floats_19 : decode cL_floats 19 = .ok (.ldc 103, 2) := by decide +kernel
theorem dL_floats_21 : decode cL_floats 21 = .ok (.ireturn, 1) := by decide +kernel
theorem L_floats_k (hG : GP G) (hA : hasS S a (.inr (.inr (6, ks)))) (hfc : fc ≤ 7) {x1 x2 x3 x4 x5 : Int} (hM : Ct G l yX8_floatAt wsX8_floatAt fc 0 0 [.ref a, .int (I32 x1), .int (I32 x2), .int (I32 x3), .int (I32 x4), .int (I32 x5)] S n mu la (Dt (some (.int (I32 v))) S n mu' la)) : Ct G l yL_floats wsL_floats 8 0 0 [.ref a, .int (I32 x1), .int (I32 x2), .int (I32 x3), .int (I32 x4), .int (I32 x5)] S n mu la (Dt (some (.int (I32 v))) S n mu' la) := by
  refine Ct.ofH (cc := cL_floats) (nL := 7) (ret := some .int) (hh := [(0, 11, 12, 126), (0, 11, 17, 115)]) [some (.ref a), some (.int (I32 x1)), some (.int (I32 x2)), some (.int (I32 x3)), some (.int (I32 x4)), some (.int (I32 x5)), none] hG (by decide) rfl (Nat.le_of_ble_eq_true rfl) rfl ?_
  rintro X rfl rfl C ht hcl hsl E
  refine V_aload_n C dL_floats_0 rfl ?_
  refine V_iload_n C dL_floats_1 rfl ?_
  refine V_iload_n C dL_floats_2 rfl ?_
  refine V_iload_n C dL_floats_3 rfl ?_
  refine V_iload C dL_floats_4 rfl ?_
  refine V_iload C dL_floats_6 rfl ?_
  refine V_callVD (nA := 5) C dL_floats_8 hM gL_floats_X8_floatAt rfl hA rfl (by decide +kernel) rfl (by omega) (by decide) (Nat.le_of_ble_eq_true rfl) ⟨by omega, by omega⟩ rfl ?_
  exact V_ireturn C E dL_floats_11 (by omega) (by omega) Dt_rfl
theorem L_floats_o (hG : GP G) (hA : hasS S a (.inr (.inr (6, ks)))) (hfc : fc ≤ 7) {x1 x2 x3 x4 x5 : Int} (hM : Ct G l yX8_floatAt wsX8_floatAt fc 0 0 [.ref a, .int (I32 x1), .int (I32 x2), .int (I32 x3), .int (I32 x4), .int (I32 x5)] S n mu la (Dt (some (.int (I32 v))) S n mu' la)) : Ct G l yL_floats wsL_floats 8 1 6 [.ref a, .int (I32 x1), .int (I32 x2), .int (I32 x3), .int (I32 x4), .int (I32 x5)] S n mu la (Lq S v mu' la) := by
  refine Ct.ofH (cc := cL_floats) (nL := 7) (ret := some .int) (hh := [(0, 11, 12, 126), (0, 11, 17, 115)]) [some (.ref a), some (.int (I32 x1)), some (.int (I32 x2)), some (.int (I32 x3)), some (.int (I32 x4)), some (.int (I32 x5)), none] hG (by decide) rfl (Nat.le_of_ble_eq_true rfl) rfl ?_
  rintro X rfl rfl C ht hcl hsl E
  refine V_aload_n C dL_floats_0 rfl ?_
  refine V_iload_n C dL_floats_1 rfl ?_
  refine V_iload_n C dL_floats_2 rfl ?_
  refine V_iload_n C dL_floats_3 rfl ?_
  refine V_iload C dL_floats_4 rfl ?_
  refine V_iload C dL_floats_6 rfl ?_
  refine V_callVD (nA := 5) C dL_floats_8 hM gL_floats_X8_floatAt rfl hA rfl (by decide +kernel) rfl (by omega) (by decide) (Nat.le_of_ble_eq_true rfl) ⟨by omega, by omega⟩ rfl ?_
  exact V_ireturn C E dL_floats_11 (by omega) (by omega) ⟨rfl, rfl, rfl, rfl⟩
theorem L_floats_x1 (hG : GP G) (hGN : GN G) (hA : hasS S a (.inr (.inr (6, ks)))) {x1 x2 x3 x4 x5 : Int} (hM : CtX G l yX8_floatAt wsX8_floatAt 7 [.ref a, .int (I32 x1), .int (I32 x2), .int (I32 x3), .int (I32 x4), .int (I32 x5)] S n mu la xE1) : Ct G l yL_floats wsL_floats 8 1 6 [.ref a, .int (I32 x1), .int (I32 x2), .int (I32 x3), .int (I32 x4), .int (I32 x5)] S n mu la (Lq S (-10000001) mu la) := by
  refine Ct.ofH (cc := cL_floats) (nL := 7) (ret := some .int) (hh := [(0, 11, 12, 126), (0, 11, 17, 115)]) [some (.ref a), some (.int (I32 x1)), some (.int (I32 x2)), some (.int (I32 x3)), some (.int (I32 x4)), some (.int (I32 x5)), none] hG (by decide) rfl (Nat.le_of_ble_eq_true rfl) rfl ?_
  rintro X rfl rfl C ht hcl hsl E
  have hN := hGN _ C.pe.2.2
  refine V_aload_n C dL_floats_0 rfl ?_
  refine V_iload_n C dL_floats_1 rfl ?_
  refine V_iload_n C dL_floats_2 rfl ?_
  refine V_iload_n C dL_floats_3 rfl ?_
  refine V_iload C dL_floats_4 rfl ?_
  refine V_iload C dL_floats_6 rfl ?_
  refine V_callVC (nA := 5) C dL_floats_8 hM gL_floats_X8_floatAt rfl hA rfl (by decide +kernel) rfl (by omega) (by decide) (Nat.le_of_ble_eq_true rfl) ⟨by omega, by omega⟩ rfl (name := xE1) [] ⟨0, 11, 12, 126⟩ [⟨0, 11, 17, 115⟩] ht ?_ (by decide) (by decide) (C.ts _ (by decide +kernel)) (cast_self hN.1.1) (fun q9 n9 => ?_)
  · exact fun _ h9 => absurd h9 List.not_mem_nil
  · refine V_astore C dL_floats_12 rfl (by decide) ?_
    refine V_ldcI C (v := -10000001) dL_floats_14 (by decide +kernel) ?_
    exact V_ireturn C E dL_floats_16 (by omega) (by omega) ⟨rfl, rfl, rfl, rfl⟩
theorem L_floats_x2 (hG : GP G) (hGN : GN G) (hA : hasS S a (.inr (.inr (6, ks)))) {x1 x2 x3 x4 x5 : Int} (hM : CtX G l yX8_floatAt wsX8_floatAt 7 [.ref a, .int (I32 x1), .int (I32 x2), .int (I32 x3), .int (I32 x4), .int (I32 x5)] S n mu la xE2) : Ct G l yL_floats wsL_floats 8 1 6 [.ref a, .int (I32 x1), .int (I32 x2), .int (I32 x3), .int (I32 x4), .int (I32 x5)] S n mu la (Lq S (-10000002) mu la) := by
  refine Ct.ofH (cc := cL_floats) (nL := 7) (ret := some .int) (hh := [(0, 11, 12, 126), (0, 11, 17, 115)]) [some (.ref a), some (.int (I32 x1)), some (.int (I32 x2)), some (.int (I32 x3)), some (.int (I32 x4)), some (.int (I32 x5)), none] hG (by decide) rfl (Nat.le_of_ble_eq_true rfl) rfl ?_
  rintro X rfl rfl C ht hcl hsl E
  have hN := hGN _ C.pe.2.2
  refine V_aload_n C dL_floats_0 rfl ?_
  refine V_iload_n C dL_floats_1 rfl ?_
  refine V_iload_n C dL_floats_2 rfl ?_
  refine V_iload_n C dL_floats_3 rfl ?_
  refine V_iload C dL_floats_4 rfl ?_
  refine V_iload C dL_floats_6 rfl ?_
  refine V_callVC (nA := 5) C dL_floats_8 hM gL_floats_X8_floatAt rfl hA rfl (by decide +kernel) rfl (by omega) (by decide) (Nat.le_of_ble_eq_true rfl) ⟨by omega, by omega⟩ rfl (name := xE2) [⟨0, 11, 12, 126⟩] ⟨0, 11, 17, 115⟩ [] ht ?_ (by decide) (by decide) (C.ts _ (by decide +kernel)) (cast_self hN.2.1.1) (fun q9 n9 => ?_)
  · exact List.forall_mem_cons.mpr ⟨Or.inr ⟨by decide, xE1, C.ts _ (by decide +kernel), hN.2.1.1⟩, fun _ h9 => absurd h9 List.not_mem_nil⟩
  · refine V_astore C dL_floats_17 rfl (by decide) ?_
    refine V_ldcI C (v := -10000002) dL_floats_19 (by decide +kernel) ?_
    exact V_ireturn C E dL_floats_21 (by omega) (by omega) ⟨rfl, rfl, rfl, rfl⟩
theorem L_floats (hG : GP G) (hGN : GN G) (hA : hasS S a (.inr (.inr (6, ks)))) (hfc : fc ≤ 7) {x1 x2 x3 x4 x5 : Int} {f : Int} (hc : f = 0 ∨ f = 1 ∨ f = 2) (h0 : f = 0 → Ct G l yX8_floatAt wsX8_floatAt fc 0 0 [.ref a, .int (I32 x1), .int (I32 x2), .int (I32 x3), .int (I32 x4), .int (I32 x5)] S n mu la (Dt (some (.int (I32 v))) S n mu' la)) (h1 : f ≠ 0 → CtX G l yX8_floatAt wsX8_floatAt 7 [.ref a, .int (I32 x1), .int (I32 x2), .int (I32 x3), .int (I32 x4), .int (I32 x5)] S n mu la (exn f)) :
    Ct G l yL_floats wsL_floats 8 1 6 [.ref a, .int (I32 x1), .int (I32 x2), .int (I32 x3), .int (I32 x4), .int (I32 x5)] S n mu la (Lq S (if f = 0 then v else -10000000 - f) (if f = 0 then mu' else mu) la) := by
  rcases hc with rfl | rfl | rfl
  · exact L_floats_o hG hA hfc (h0 rfl)
  · exact L_floats_x1 hG hGN hA (h1 (by decide))
  · exact L_floats_x2 hG hGN hA (h1 (by decide))
set_option maxRecDepth 20000 in
theorem ggL_raises_X8_raise : GoodIn wsL_raises wsX8_raise := goodIn_ca (goodIn_ca (goodIn_ca (goodIn_r _ [9, 10, 11, 12, 13, 14, 8, 15, 16, 17, 18, 19, 20, 21, 22, 23, 24, 25, 26, 27, 28, 29, 30, 31, 32, 33, 34, 35, 36, 37, 38, 39, 40, 41, 42, 43, 44, 45, 46, 47, 48, 49, 50, 51, 52, 53, 54, 55, 56, 57, 58, 59, 60, 61, 62, 63, 64, 65, 66, 67, 68, 69, 70, 71, 72, 73, 74, 75, 76, 77, 78, 79, 80, 81, 82, 83, 84, 85, 86, 87, 88, 89, 90, 91, 92, 93, 94, 95, 96, 97, 98, 99, 100, 101, 102, 103, 104, 105, 106, 107, 108, 109, 110, 111, 112, 113, 114, 115, 116, 117, 118, 119, 120, 121, 122, 123, 124, 125, 126, 127, 128, 129, 130, 131, 132, 133, 134, 135, 136, 137, 138, 139, 140, 141, 142, 143, 144, 145, 146, 147, 148, 149, 150, 151, 152, 153, 154, 155, 156, 157, 158, 159, 160, 161, 162, 163, 164, 165, 166, 167, 168, 169, 170, 171, 172, 173, 174, 175, 176, 177, 178, 179, 180, 181, 182, 183, 184, 185, 186, 187, 188, 189, 190, 191, 192, 193, 194, 195, 196, 197, 198, 199, 200, 201, 202, 203, 204, 205, 206, 207, 208, 209, 210, 211, 212, 213, 214, 215, 216, 217, 218, 219, 220, 221, 222, 223, 224, 225, 226, 227, 228, 229, 230, 231, 232, 233, 234, 235, 236, 237, 238, 239, 240, 241, 242, 243, 244, 245, 246, 247, 248, 249, 250, 251, 252, 253, 254, 255, 256, 257, 258, 259, 260, 261, 262, 263, 264, 265, 266, 267, 268, 269, 270, 271, 272, 273, 274, 275, 276, 277, 278, 279, 280, 281, 282, 283, 284, 285, 286, 287, 288, 289, 290, 291, 292, 293, 294, 295, 296, 297, 298, 299] (by decide +kernel) (by decide +kernel)) (goodIn_sub (fun _ h => List.mem_cons_of_mem _ (List.mem_append_left _ (List.mem_append_left _ (List.mem_append_right _ h)))) (by decide +kernel))) (goodIn_sub (fun _ h => List.mem_cons_of_mem _ (List.mem_append_left _ (List.mem_append_right _ h))) (by decide +kernel))) (goodIn_sub (fun _ h => List.mem_cons_of_mem _ (List.mem_append_right _ h)) (by decide +kernel))
set_option maxRecDepth 20000 in
theorem gL_raises_X8_raise : GoodIn wsL_raises (wsV RL 139 RX8 yX8_raise wsX8_raise) := goodIn_app (goodIn_of _ (by decide +kernel)) ggL_raises_X8_raise
theorem dL_raises_0 : decode cL_raises 0 = .ok (.aload_n 0, 1) := by decide +kernel
theorem dL_raises_1 : decode cL_raises 1 = .ok (.iload_n 1, 1) := by decide +kernel
theorem dL_raises_2 : decode cL_raises 2 = .ok (.invokevirtual 139, 3) := by decide +kernel
theorem dL_raises_5 : decode cL_raises 5 = .ok (.ireturn, 1) := by decide +kernel
theorem dL_raises_6 : decode cL_raises 6 = .ok (.astore_n 2, 1) := by decide +kernel
theorem dL_raises_7 : decode cL_raises 7 = .ok (.ldc 128, 2) := by decide +kernel
theorem dL_raises_9 : decode cL_raises 9 = .ok (.ireturn, 1) := by decide +kernel
theorem dL_raises_10 : decode cL_raises 10 = .ok (.astore_n 2, 1) := by decide +kernel
theorem dL_raises_11 : decode cL_raises 11 = .ok (.ldc 77, 2) := by decide +kernel
theorem dL_raises_13 : decode cL_raises 13 = .ok (.ireturn, 1) := by decide +kernel
theorem L_raises_k (hG : GP G) (hA : hasS S a (.inr (.inr (6, ks)))) (hfc : fc ≤ 7) {x1 : Int} (hM : Ct G l yX8_raise wsX8_raise fc 0 0 [.ref a, .int (I32 x1)] S n mu la (Dt (some (.int (I32 v))) S n mu' la)) : Ct G l yL_raises wsL_raises 8 0 0 [.ref a, .int (I32 x1)] S n mu la (Dt (some (.int (I32 v))) S n mu' la) := by
  refine Ct.ofH (cc := cL_raises) (nL := 3) (ret := some .int) (hh := [(0, 5, 6, 126), (0, 5, 10, 120)]) [some (.ref a), some (.int (I32 x1)), none] hG (by decide) rfl (Nat.le_of_ble_eq_true rfl) rfl ?_
  rintro X rfl rfl C ht hcl hsl E
  refine V_aload_n C dL_raises_0 rfl ?_
  refine V_iload_n C dL_raises_1 rfl ?_
  refine V_callVD (nA := 1) C dL_raises_2 hM gL_raises_X8_raise rfl hA rfl (by decide +kernel) rfl (by omega) (by decide) (Nat.le_of_ble_eq_true rfl) ⟨by omega, by omega⟩ rfl ?_
  exact V_ireturn C E dL_raises_5 (by omega) (by omega) Dt_rfl
theorem L_raises_o (hG : GP G) (hA : hasS S a (.inr (.inr (6, ks)))) (hfc : fc ≤ 7) {x1 : Int} (hM : Ct G l yX8_raise wsX8_raise fc 0 0 [.ref a, .int (I32 x1)] S n mu la (Dt (some (.int (I32 v))) S n mu' la)) : Ct G l yL_raises wsL_raises 8 1 6 [.ref a, .int (I32 x1)] S n mu la (Lq S v mu' la) := by
  refine Ct.ofH (cc := cL_raises) (nL := 3) (ret := some .int) (hh := [(0, 5, 6, 126), (0, 5, 10, 120)]) [some (.ref a), some (.int (I32 x1)), none] hG (by decide) rfl (Nat.le_of_ble_eq_true rfl) rfl ?_
  rintro X rfl rfl C ht hcl hsl E
  refine V_aload_n C dL_raises_0 rfl ?_
  refine V_iload_n C dL_raises_1 rfl ?_
  refine V_callVD (nA := 1) C dL_raises_2 hM gL_raises_X8_raise rfl hA rfl (by decide +kernel) rfl (by omega) (by decide) (Nat.le_of_ble_eq_true rfl) ⟨by omega, by omega⟩ rfl ?_
  exact V_ireturn C E dL_raises_5 (by omega) (by omega) ⟨rfl, rfl, rfl, rfl⟩
theorem L_raises_x1 (hG : GP G) (hGN : GN G) (hA : hasS S a (.inr (.inr (6, ks)))) {x1 : Int} (hM : CtX G l yX8_raise wsX8_raise 7 [.ref a, .int (I32 x1)] S n mu la xE1) : Ct G l yL_raises wsL_raises 8 1 6 [.ref a, .int (I32 x1)] S n mu la (Lq S (-10000001) mu la) := by
  refine Ct.ofH (cc := cL_raises) (nL := 3) (ret := some .int) (hh := [(0, 5, 6, 126), (0, 5, 10, 120)]) [some (.ref a), some (.int (I32 x1)), none] hG (by decide) rfl (Nat.le_of_ble_eq_true rfl) rfl ?_
  rintro X rfl rfl C ht hcl hsl E
  have hN := hGN _ C.pe.2.2
  refine V_aload_n C dL_raises_0 rfl ?_
  refine V_iload_n C dL_raises_1 rfl ?_
  refine V_callVC (nA := 1) C dL_raises_2 hM gL_raises_X8_raise rfl hA rfl (by decide +kernel) rfl (by omega) (by decide) (Nat.le_of_ble_eq_true rfl) ⟨by omega, by omega⟩ rfl (name := xE1) [] ⟨0, 5, 6, 126⟩ [⟨0, 5, 10, 120⟩] ht ?_ (by decide) (by decide) (C.ts _ (by decide +kernel)) (cast_self hN.1.1) (fun q9 n9 => ?_)
  · exact fun _ h9 => absurd h9 List.not_mem_nil
  · refine V_astore_n C dL_raises_6 rfl (by decide) ?_
    refine V_ldcI C (v := -10000001) dL_raises_7 (by decide +kernel) ?_
    exact V_ireturn C E dL_raises_9 (by omega) (by omega) ⟨rfl, rfl, rfl, rfl⟩
theorem L_raises_x3 (hG : GP G) (hGN : GN G) (hA : hasS S a (.inr (.inr (6, ks)))) {x1 : Int} (hM : CtX G l yX8_raise wsX8_raise 7 [.ref a, .int (I32 x1)] S n mu la xE3) : Ct G l yL_raises wsL_raises 8 1 6 [.ref a, .int (I32 x1)] S n mu la (Lq S (-10000003) mu la) := by
  refine Ct.ofH (cc := cL_raises) (nL := 3) (ret := some .int) (hh := [(0, 5, 6, 126), (0, 5, 10, 120)]) [some (.ref a), some (.int (I32 x1)), none] hG (by decide) rfl (Nat.le_of_ble_eq_true rfl) rfl ?_
  rintro X rfl rfl C ht hcl hsl E
  have hN := hGN _ C.pe.2.2
  refine V_aload_n C dL_raises_0 rfl ?_
  refine V_iload_n C dL_raises_1 rfl ?_
  refine V_callVC (nA := 1) C dL_raises_2 hM gL_raises_X8_raise rfl hA rfl (by decide +kernel) rfl (by omega) (by decide) (Nat.le_of_ble_eq_true rfl) ⟨by omega, by omega⟩ rfl (name := xE3) [⟨0, 5, 6, 126⟩] ⟨0, 5, 10, 120⟩ [] ht ?_ (by decide) (by decide) (C.ts _ (by decide +kernel)) (cast_self hN.2.2.1) (fun q9 n9 => ?_)
  · exact List.forall_mem_cons.mpr ⟨Or.inr ⟨by decide, xE1, C.ts _ (by decide +kernel), hN.2.2.1⟩, fun _ h9 => absurd h9 List.not_mem_nil⟩
  · refine V_astore_n C dL_raises_10 rfl (by decide) ?_
    refine V_ldcI C (v := -10000003) dL_raises_11 (by decide +kernel) ?_
    exact V_ireturn C E dL_raises_13 (by omega) (by omega) ⟨rfl, rfl, rfl, rfl⟩
theorem L_raises (hG : GP G) (hGN : GN G) (hA : hasS S a (.inr (.inr (6, ks)))) (hfc : fc ≤ 7) {x1 : Int} {f : Int} (hc : f = 0 ∨ f = 1 ∨ f = 3) (h0 : f = 0 → Ct G l yX8_raise wsX8_raise fc 0 0 [.ref a, .int (I32 x1)] S n mu la (Dt (some (.int (I32 v))) S n mu' la)) (h1 : f ≠ 0 → CtX G l yX8_raise wsX8_raise 7 [.ref a, .int (I32 x1)] S n mu la (exn f)) :
    Ct G l yL_raises wsL_raises 8 1 6 [.ref a, .int (I32 x1)] S n mu la (Lq S (if f = 0 then v else -10000000 - f) (if f = 0 then mu' else mu) la) := by
  rcases hc with rfl | rfl | rfl
  · exact L_raises_o hG hA hfc (h0 rfl)
  · exact L_raises_x1 hG hGN hA (h1 (by decide))
  · exact L_raises_x3 hG hGN hA (h1 (by decide))
set_option maxRecDepth 20000 in
theorem ggL_closesOf_X8_close : GoodIn wsL_closesOf wsX8_close := goodIn_ca (goodIn_ca (goodIn_ca (goodIn_r _ [7, 8, 9, 10, 11, 12, 6, 13, 14, 15, 16, 17, 18, 19, 20, 21, 22, 23, 24, 25, 26, 27, 28, 29, 30, 31, 32, 33, 34, 35, 36, 37, 38, 39, 40, 41, 42, 43, 44, 45, 46, 47, 48, 49, 50, 51, 52, 53, 54, 55, 56, 57, 58, 59, 60, 61, 62, 63, 64, 65, 66, 67, 68, 69, 70, 71, 72, 73, 74, 75, 76, 77, 78, 79, 80, 81, 82, 83, 84, 85, 86, 87, 88, 89, 90, 91, 92, 93, 94, 95, 96, 97, 98, 99, 100, 101, 102, 103, 104, 105, 106, 107, 108, 109, 110, 111, 112, 113, 114, 115, 116, 117, 118, 119, 120, 121, 122, 123, 124, 125, 126, 127, 128, 129, 130, 131, 132, 133, 134, 135, 136, 137, 138, 139, 140, 141, 142, 143, 144, 145, 146, 147, 148, 149, 150, 151, 152, 153, 154, 155, 156, 157, 158, 159, 160, 161, 162, 163, 164, 165, 166, 167, 168, 169, 170, 171, 172, 173, 174, 175, 176, 177, 178, 179, 180, 181, 182, 183, 184, 185, 186, 187, 188, 189, 190, 191, 192, 193, 194, 195, 196, 197, 198, 199, 200, 201, 202, 203, 204, 205, 206, 207, 208, 209, 210, 211, 212, 213, 214, 215, 216, 217, 218, 219, 220, 221, 222, 223, 224, 225, 226, 227, 228, 229, 230, 231, 232, 233, 234, 235, 236, 237, 238, 239, 240, 241, 242, 243, 244, 245, 246, 247, 248, 249, 250, 251, 252, 253, 254, 255, 256, 257, 258, 259, 260, 261, 262, 263, 264, 265, 266, 267, 268, 269, 270, 271, 272, 273, 274, 275, 276, 277, 278, 279, 280, 281, 282, 283, 284, 285, 286, 287, 288, 289, 290, 291, 292, 293, 294, 295, 296, 297, 298, 299, 300, 301, 302, 303, 304, 305, 306, 307, 308, 309] (by decide +kernel) (by decide +kernel)) (goodIn_sub (fun _ h => List.mem_cons_of_mem _ (List.mem_append_left _ (List.mem_append_left _ (List.mem_append_right _ h)))) (by decide +kernel))) (goodIn_sub (fun _ h => List.mem_cons_of_mem _ (List.mem_append_left _ (List.mem_append_right _ h))) (by decide +kernel))) (goodIn_sub (fun _ h => List.mem_cons_of_mem _ (List.mem_append_right _ h)) (by decide +kernel))
set_option maxRecDepth 20000 in
theorem gL_closesOf_X8_close : GoodIn wsL_closesOf (wsV RL 143 RX8 yX8_close wsX8_close) := goodIn_app (goodIn_of _ (by decide +kernel)) ggL_closesOf_X8_close
theorem dL_closesOf_0 : decode cL_closesOf 0 = .ok (.aload_n 0, 1) := by decide +kernel
theorem dL_closesOf_1 : decode cL_closesOf 1 = .ok (.iload_n 1, 1) := by decide +kernel
theorem dL_closesOf_2 : decode cL_closesOf 2 = .ok (.invokevirtual 143, 3) := by decide +kernel
theorem dL_closesOf_5 : decode cL_closesOf 5 = .ok (.ireturn, 1) := by decide +kernel
theorem dL_closesOf_6 : decode cL_closesOf 6 = .ok (.astore_n 2, 1) := by decide +kernel
theorem dL_closesOf_7 : decode cL_closesOf 7 = .ok (.ldc 128, 2) := by decide +kernel
theorem dL_closesOf_9 : decode cL_closesOf 9 = .ok (.ireturn, 1) := by decide +kernel
theorem L_closesOf_k (hG : GP G) (hA : hasS S a (.inr (.inr (6, ks)))) (hfc : fc ≤ 7) {x1 : Int} (hM : Ct G l yX8_close wsX8_close fc 0 0 [.ref a, .int (I32 x1)] S n mu la (Dt (some (.int (I32 v))) S n mu' la)) : Ct G l yL_closesOf wsL_closesOf 8 0 0 [.ref a, .int (I32 x1)] S n mu la (Dt (some (.int (I32 v))) S n mu' la) := by
  refine Ct.ofH (cc := cL_closesOf) (nL := 3) (ret := some .int) (hh := [(0, 5, 6, 126)]) [some (.ref a), some (.int (I32 x1)), none] hG (by decide) rfl (Nat.le_of_ble_eq_true rfl) rfl ?_
  rintro X rfl rfl C ht hcl hsl E
  refine V_aload_n C dL_closesOf_0 rfl ?_
  refine V_iload_n C dL_closesOf_1 rfl ?_
  refine V_callVD (nA := 1) C dL_closesOf_2 hM gL_closesOf_X8_close rfl hA rfl (by decide +kernel) rfl (by omega) (by decide) (Nat.le_of_ble_eq_true rfl) ⟨by omega, by omega⟩ rfl ?_
  exact V_ireturn C E dL_closesOf_5 (by omega) (by omega) Dt_rfl
theorem L_closesOf_o (hG : GP G) (hA : hasS S a (.inr (.inr (6, ks)))) (hfc : fc ≤ 7) {x1 : Int} (hM : Ct G l yX8_close wsX8_close fc 0 0 [.ref a, .int (I32 x1)] S n mu la (Dt (some (.int (I32 v))) S n mu' la)) : Ct G l yL_closesOf wsL_closesOf 8 1 6 [.ref a, .int (I32 x1)] S n mu la (Lq S v mu' la) := by
  refine Ct.ofH (cc := cL_closesOf) (nL := 3) (ret := some .int) (hh := [(0, 5, 6, 126)]) [some (.ref a), some (.int (I32 x1)), none] hG (by decide) rfl (Nat.le_of_ble_eq_true rfl) rfl ?_
  rintro X rfl rfl C ht hcl hsl E
  refine V_aload_n C dL_closesOf_0 rfl ?_
  refine V_iload_n C dL_closesOf_1 rfl ?_
  refine V_callVD (nA := 1) C dL_closesOf_2 hM gL_closesOf_X8_close rfl hA rfl (by decide +kernel) rfl (by omega) (by decide) (Nat.le_of_ble_eq_true rfl) ⟨by omega, by omega⟩ rfl ?_
  exact V_ireturn C E dL_closesOf_5 (by omega) (by omega) ⟨rfl, rfl, rfl, rfl⟩
theorem L_closesOf_x1 (hG : GP G) (hGN : GN G) (hA : hasS S a (.inr (.inr (6, ks)))) {x1 : Int} (hM : CtX G l yX8_close wsX8_close 7 [.ref a, .int (I32 x1)] S n mu la xE1) : Ct G l yL_closesOf wsL_closesOf 8 1 6 [.ref a, .int (I32 x1)] S n mu la (Lq S (-10000001) mu la) := by
  refine Ct.ofH (cc := cL_closesOf) (nL := 3) (ret := some .int) (hh := [(0, 5, 6, 126)]) [some (.ref a), some (.int (I32 x1)), none] hG (by decide) rfl (Nat.le_of_ble_eq_true rfl) rfl ?_
  rintro X rfl rfl C ht hcl hsl E
  have hN := hGN _ C.pe.2.2
  refine V_aload_n C dL_closesOf_0 rfl ?_
  refine V_iload_n C dL_closesOf_1 rfl ?_
  refine V_callVC (nA := 1) C dL_closesOf_2 hM gL_closesOf_X8_close rfl hA rfl (by decide +kernel) rfl (by omega) (by decide) (Nat.le_of_ble_eq_true rfl) ⟨by omega, by omega⟩ rfl (name := xE1) [] ⟨0, 5, 6, 126⟩ [] ht ?_ (by decide) (by decide) (C.ts _ (by decide +kernel)) (cast_self hN.1.1) (fun q9 n9 => ?_)
  · exact fun _ h9 => absurd h9 List.not_mem_nil
  · refine V_astore_n C dL_closesOf_6 rfl (by decide) ?_
    refine V_ldcI C (v := -10000001) dL_closesOf_7 (by decide +kernel) ?_
    exact V_ireturn C E dL_closesOf_9 (by omega) (by omega) ⟨rfl, rfl, rfl, rfl⟩
theorem L_closesOf (hG : GP G) (hGN : GN G) (hA : hasS S a (.inr (.inr (6, ks)))) (hfc : fc ≤ 7) {x1 : Int} {f : Int} (hc : f = 0 ∨ f = 1) (h0 : f = 0 → Ct G l yX8_close wsX8_close fc 0 0 [.ref a, .int (I32 x1)] S n mu la (Dt (some (.int (I32 v))) S n mu' la)) (h1 : f ≠ 0 → CtX G l yX8_close wsX8_close 7 [.ref a, .int (I32 x1)] S n mu la (exn f)) :
    Ct G l yL_closesOf wsL_closesOf 8 1 6 [.ref a, .int (I32 x1)] S n mu la (Lq S (if f = 0 then v else -10000000 - f) (if f = 0 then mu' else mu) la) := by
  rcases hc with rfl | rfl
  · exact L_closesOf_o hG hA hfc (h0 rfl)
  · exact L_closesOf_x1 hG hGN hA (h1 (by decide))
set_option maxRecDepth 20000 in
theorem ggL_moves_X8_moveTab : GoodIn wsL_moves wsX8_moveTab := goodIn_ca (goodIn_ca (goodIn_ca (goodIn_r _ [11, 12, 13, 14, 15, 16, 10, 17, 18, 19, 20, 21, 22, 23, 24, 25, 26, 27, 28, 29, 30, 31, 32, 33, 34, 35, 36, 37, 38, 39, 40, 41, 42, 43, 44, 45, 46, 47, 48, 49, 50, 51, 52, 53, 54, 55, 56, 57, 58, 59, 60, 61, 62, 63, 64, 65, 66, 67, 68, 69, 70, 71, 72, 73, 74, 75, 76, 77, 78, 79, 80, 81, 82, 83, 84, 85, 86, 87, 88, 89, 90, 91, 92, 93, 94, 95, 96, 97, 98, 99, 100, 101, 102, 103, 104, 105, 106, 107, 108, 109, 110, 111, 112, 113, 114, 115, 116, 117, 118, 119, 120, 121, 122, 123, 124, 125, 126, 127, 128, 129, 130, 131, 132, 133, 134, 135, 136, 137, 138, 139, 140, 141, 142, 143, 144, 145, 146, 147, 148, 149, 150, 151, 152, 153, 154, 155, 156, 157, 158, 159, 160, 161, 162, 163, 164, 165, 166, 167, 168, 169, 170, 171, 172, 173, 174, 175, 176, 177, 178, 179, 180, 181, 182, 183, 184, 185, 186, 187, 188, 189, 190, 191, 192, 193, 194, 195, 196, 197, 198, 199, 200, 201, 202, 203, 204, 205, 206, 207, 208, 209, 210, 211, 212, 213, 214, 215, 216, 217, 218, 219, 220, 221, 222, 223, 224, 225, 226, 227, 228, 229, 230, 231, 232, 233, 234, 235, 236, 237, 238, 239, 240, 241, 242, 243, 244, 245, 246, 247, 248, 249, 250, 251, 252, 253, 254, 255, 256, 257, 258, 259, 260, 261, 262, 263, 264, 265, 266, 267, 268, 269, 270, 271, 272, 273, 274, 275, 276, 277, 278, 279, 280, 281, 282, 283, 284, 285, 286, 287, 288, 289, 290, 291, 292, 293, 294, 295, 296, 297, 298, 299, 300, 301, 302, 303, 304, 305, 306, 307, 308, 309, 310] (by decide +kernel) (by decide +kernel)) (goodIn_sub (fun _ h => List.mem_cons_of_mem _ (List.mem_append_left _ (List.mem_append_left _ (List.mem_append_right _ h)))) (by decide +kernel))) (goodIn_sub (fun _ h => List.mem_cons_of_mem _ (List.mem_append_left _ (List.mem_append_right _ h))) (by decide +kernel))) (goodIn_sub (fun _ h => List.mem_cons_of_mem _ (List.mem_append_right _ h)) (by decide +kernel))
set_option maxRecDepth 20000 in
theorem gL_moves_X8_moveTab : GoodIn wsL_moves (wsV RL 149 RX8 yX8_moveTab wsX8_moveTab) := goodIn_app (goodIn_of _ (by decide +kernel)) ggL_moves_X8_moveTab
theorem dL_moves_0 : decode cL_moves 0 = .ok (.aload_n 0, 1) := by decide +kernel
theorem dL_moves_1 : decode cL_moves 1 = .ok (.iload_n 1, 1) := by decide +kernel
theorem dL_moves_2 : decode cL_moves 2 = .ok (.iload_n 2, 1) := by decide +kernel
theorem dL_moves_3 : decode cL_moves 3 = .ok (.invokevirtual 149, 3) := by decide +kernel
theorem dL_moves_6 : decode cL_moves 6 = .ok (.ireturn, 1) := by decide +kernel
theorem dL_moves_7 : decode cL_moves 7 = .ok (.astore_n 3, 1) := by decide +kernel
theorem dL_moves_8 : decode cL_moves 8 = .ok (.ldc 128, 2) := by decide +kernel
theorem dL_moves_10 : decode cL_moves 10 = .ok (.ireturn, 1) := by decide +kernel
theorem dL_moves_11 : decode cL_moves 11 = .ok (.astore_n 3, 1) := by decide +kernel
theorem dL_moves_12 : decode cL_moves 12 = .ok (.ldc 77, 2) := by decide +kernel
theorem dL_moves_14 : decode cL_moves 14 = .ok (.ireturn, 1) := by decide +kernel
theorem dL_moves_15 : decode cL_moves 15 = .ok (.astore_n 3, 1) := by decide +kernel
theorem dL_moves_16 : decode cL_moves 16 = .ok (.ldc 103, 2) := by decide +kernel
theorem dL_moves_18 : decode cL_moves 18 = .ok (.ireturn, 1) := by decide +kernel
theorem L_moves_k (hG : GP G) (hA : hasS S a (.inr (.inr (6, ks)))) (hfc : fc ≤ 7) {x1 x2 : Int} (hM : Ct G l yX8_moveTab wsX8_moveTab fc 0 0 [.ref a, .int (I32 x1), .int (I32 x2)] S n mu la (Dt (some (.int (I32 v))) S n mu' la)) : Ct G l yL_moves wsL_moves 8 0 0 [.ref a, .int (I32 x1), .int (I32 x2)] S n mu la (Dt (some (.int (I32 v))) S n mu' la) := by
  refine Ct.ofH (cc := cL_moves) (nL := 4) (ret := some .int) (hh := [(0, 6, 7, 126), (0, 6, 11, 120), (0, 6, 15, 115)]) [some (.ref a), some (.int (I32 x1)), some (.int (I32 x2)), none] hG (by decide) rfl (Nat.le_of_ble_eq_true rfl) rfl ?_
  rintro X rfl rfl C ht hcl hsl E
  refine V_aload_n C dL_moves_0 rfl ?_
  refine V_iload_n C dL_moves_1 rfl ?_
  refine V_iload_n C dL_moves_2 rfl ?_
  refine V_callVD (nA := 2) C dL_moves_3 hM gL_moves_X8_moveTab rfl hA rfl (by decide +kernel) rfl (by omega) (by decide) (Nat.le_of_ble_eq_true rfl) ⟨by omega, by omega⟩ rfl ?_
  exact V_ireturn C E dL_moves_6 (by omega) (by omega) Dt_rfl
theorem L_moves_o (hG : GP G) (hA : hasS S a (.inr (.inr (6, ks)))) (hfc : fc ≤ 7) {x1 x2 : Int} (hM : Ct G l yX8_moveTab wsX8_moveTab fc 0 0 [.ref a, .int (I32 x1), .int (I32 x2)] S n mu la (Dt (some (.int (I32 v))) S n mu' la)) : Ct G l yL_moves wsL_moves 8 1 6 [.ref a, .int (I32 x1), .int (I32 x2)] S n mu la (Lq S v mu' la) := by
  refine Ct.ofH (cc := cL_moves) (nL := 4) (ret := some .int) (hh := [(0, 6, 7, 126), (0, 6, 11, 120), (0, 6, 15, 115)]) [some (.ref a), some (.int (I32 x1)), some (.int (I32 x2)), none] hG (by decide) rfl (Nat.le_of_ble_eq_true rfl) rfl ?_
  rintro X rfl rfl C ht hcl hsl E
  refine V_aload_n C dL_moves_0 rfl ?_
  refine V_iload_n C dL_moves_1 rfl ?_
  refine V_iload_n C dL_moves_2 rfl ?_
  refine V_callVD (nA := 2) C dL_moves_3 hM gL_moves_X8_moveTab rfl hA rfl (by decide +kernel) rfl (by omega) (by decide) (Nat.le_of_ble_eq_true rfl) ⟨by omega, by omega⟩ rfl ?_
  exact V_ireturn C E dL_moves_6 (by omega) (by omega) ⟨rfl, rfl, rfl, rfl⟩
theorem L_moves_x1 (hG : GP G) (hGN : GN G) (hA : hasS S a (.inr (.inr (6, ks)))) {x1 x2 : Int} (hM : CtX G l yX8_moveTab wsX8_moveTab 7 [.ref a, .int (I32 x1), .int (I32 x2)] S n mu la xE1) : Ct G l yL_moves wsL_moves 8 1 6 [.ref a, .int (I32 x1), .int (I32 x2)] S n mu la (Lq S (-10000001) mu la) := by
  refine Ct.ofH (cc := cL_moves) (nL := 4) (ret := some .int) (hh := [(0, 6, 7, 126), (0, 6, 11, 120), (0, 6, 15, 115)]) [some (.ref a), some (.int (I32 x1)), some (.int (I32 x2)), none] hG (by decide) rfl (Nat.le_of_ble_eq_true rfl) rfl ?_
  rintro X rfl rfl C ht hcl hsl E
  have hN := hGN _ C.pe.2.2
  refine V_aload_n C dL_moves_0 rfl ?_
  refine V_iload_n C dL_moves_1 rfl ?_
  refine V_iload_n C dL_moves_2 rfl ?_
  refine V_callVC (nA := 2) C dL_moves_3 hM gL_moves_X8_moveTab rfl hA rfl (by decide +kernel) rfl (by omega) (by decide) (Nat.le_of_ble_eq_true rfl) ⟨by omega, by omega⟩ rfl (name := xE1) [] ⟨0, 6, 7, 126⟩ [⟨0, 6, 11, 120⟩, ⟨0, 6, 15, 115⟩] ht ?_ (by decide) (by decide) (C.ts _ (by decide +kernel)) (cast_self hN.1.1) (fun q9 n9 => ?_)
  · exact fun _ h9 => absurd h9 List.not_mem_nil
  · refine V_astore_n C dL_moves_7 rfl (by decide) ?_
    refine V_ldcI C (v := -10000001) dL_moves_8 (by decide +kernel) ?_
    exact V_ireturn C E dL_moves_10 (by omega) (by omega) ⟨rfl, rfl, rfl, rfl⟩
theorem L_moves_x3 (hG : GP G) (hGN : GN G) (hA : hasS S a (.inr (.inr (6, ks)))) {x1 x2 : Int} (hM : CtX G l yX8_moveTab wsX8_moveTab 7 [.ref a, .int (I32 x1), .int (I32 x2)] S n mu la xE3) : Ct G l yL_moves wsL_moves 8 1 6 [.ref a, .int (I32 x1), .int (I32 x2)] S n mu la (Lq S (-10000003) mu la) := by
  refine Ct.ofH (cc := cL_moves) (nL := 4) (ret := some .int) (hh := [(0, 6, 7, 126), (0, 6, 11, 120), (0, 6, 15, 115)]) [some (.ref a), some (.int (I32 x1)), some (.int (I32 x2)), none] hG (by decide) rfl (Nat.le_of_ble_eq_true rfl) rfl ?_
  rintro X rfl rfl C ht hcl hsl E
  have hN := hGN _ C.pe.2.2
  refine V_aload_n C dL_moves_0 rfl ?_
  refine V_iload_n C dL_moves_1 rfl ?_
  refine V_iload_n C dL_moves_2 rfl ?_
  refine V_callVC (nA := 2) C dL_moves_3 hM gL_moves_X8_moveTab rfl hA rfl (by decide +kernel) rfl (by omega) (by decide) (Nat.le_of_ble_eq_true rfl) ⟨by omega, by omega⟩ rfl (name := xE3) [⟨0, 6, 7, 126⟩] ⟨0, 6, 11, 120⟩ [⟨0, 6, 15, 115⟩] ht ?_ (by decide) (by decide) (C.ts _ (by decide +kernel)) (cast_self hN.2.2.1) (fun q9 n9 => ?_)
  · exact List.forall_mem_cons.mpr ⟨Or.inr ⟨by decide, xE1, C.ts _ (by decide +kernel), hN.2.2.1⟩, fun _ h9 => absurd h9 List.not_mem_nil⟩
  · refine V_astore_n C dL_moves_11 rfl (by decide) ?_
    refine V_ldcI C (v := -10000003) dL_moves_12 (by decide +kernel) ?_
    exact V_ireturn C E dL_moves_14 (by omega) (by omega) ⟨rfl, rfl, rfl, rfl⟩
theorem L_moves_x2 (hG : GP G) (hGN : GN G) (hA : hasS S a (.inr (.inr (6, ks)))) {x1 x2 : Int} (hM : CtX G l yX8_moveTab wsX8_moveTab 7 [.ref a, .int (I32 x1), .int (I32 x2)] S n mu la xE2) : Ct G l yL_moves wsL_moves 8 1 6 [.ref a, .int (I32 x1), .int (I32 x2)] S n mu la (Lq S (-10000002) mu la) := by
  refine Ct.ofH (cc := cL_moves) (nL := 4) (ret := some .int) (hh := [(0, 6, 7, 126), (0, 6, 11, 120), (0, 6, 15, 115)]) [some (.ref a), some (.int (I32 x1)), some (.int (I32 x2)), none] hG (by decide) rfl (Nat.le_of_ble_eq_true rfl) rfl ?_
  rintro X rfl rfl C ht hcl hsl E
  have hN := hGN _ C.pe.2.2
  refine V_aload_n C dL_moves_0 rfl ?_
  refine V_iload_n C dL_moves_1 rfl ?_
  refine V_iload_n C dL_moves_2 rfl ?_
  refine V_callVC (nA := 2) C dL_moves_3 hM gL_moves_X8_moveTab rfl hA rfl (by decide +kernel) rfl (by omega) (by decide) (Nat.le_of_ble_eq_true rfl) ⟨by omega, by omega⟩ rfl (name := xE2) [⟨0, 6, 7, 126⟩, ⟨0, 6, 11, 120⟩] ⟨0, 6, 15, 115⟩ [] ht ?_ (by decide) (by decide) (C.ts _ (by decide +kernel)) (cast_self hN.2.1.1) (fun q9 n9 => ?_)
  · exact List.forall_mem_cons.mpr ⟨Or.inr ⟨by decide, xE1, C.ts _ (by decide +kernel), hN.2.1.1⟩, List.forall_mem_cons.mpr ⟨Or.inr ⟨by decide, xE3, C.ts _ (by decide +kernel), hN.2.1.2⟩, fun _ h9 => absurd h9 List.not_mem_nil⟩⟩
  · refine V_astore_n C dL_moves_15 rfl (by decide) ?_
    refine V_ldcI C (v := -10000002) dL_moves_16 (by decide +kernel) ?_
    exact V_ireturn C E dL_moves_18 (by omega) (by omega) ⟨rfl, rfl, rfl, rfl⟩
theorem L_moves (hG : GP G) (hGN : GN G) (hA : hasS S a (.inr (.inr (6, ks)))) (hfc : fc ≤ 7) {x1 x2 : Int} {f : Int} (hc : f = 0 ∨ f = 1 ∨ f = 3 ∨ f = 2) (h0 : f = 0 → Ct G l yX8_moveTab wsX8_moveTab fc 0 0 [.ref a, .int (I32 x1), .int (I32 x2)] S n mu la (Dt (some (.int (I32 v))) S n mu' la)) (h1 : f ≠ 0 → CtX G l yX8_moveTab wsX8_moveTab 7 [.ref a, .int (I32 x1), .int (I32 x2)] S n mu la (exn f)) :
    Ct G l yL_moves wsL_moves 8 1 6 [.ref a, .int (I32 x1), .int (I32 x2)] S n mu la (Lq S (if f = 0 then v else -10000000 - f) (if f = 0 then mu' else mu) la) := by
  rcases hc with rfl | rfl | rfl | rfl
  · exact L_moves_o hG hA hfc (h0 rfl)
  · exact L_moves_x1 hG hGN hA (h1 (by decide))
  · exact L_moves_x3 hG hGN hA (h1 (by decide))
  · exact L_moves_x2 hG hGN hA (h1 (by decide))
set_option maxRecDepth 20000 in
theorem ggL_weighs_X8_setShare : GoodIn wsL_weighs wsX8_setShare := goodIn_ca (goodIn_ca (goodIn_ca (goodIn_r _ [11, 12, 13, 14, 15, 16, 10, 17, 18, 19, 20, 21, 22, 23, 24, 25, 26, 27, 28, 29, 30, 31, 32, 33, 34, 35, 36, 37, 38, 39, 40, 41, 42, 43, 44, 45, 46, 47, 48, 49, 50, 51, 52, 53, 54, 55, 56, 57, 58, 59, 60, 61, 62, 63, 64, 65, 66, 67, 68, 69, 70, 71, 72, 73, 74, 75, 76, 77, 78, 79, 80, 81, 82, 83, 84, 85, 86, 87, 88, 89, 90, 91, 92, 93, 94, 95, 96, 97, 98, 99, 100, 101, 102, 103, 104, 105, 106, 107, 108, 109, 110, 111, 112, 113, 114, 115, 116, 117, 118, 119, 120, 121, 122, 123, 124, 125, 126, 127, 128, 129, 130, 131, 132, 133, 134, 135, 136, 137, 138, 139, 140, 141, 142, 143, 144, 145, 146, 147, 148, 149, 150, 151, 152, 153, 154, 155, 156, 157, 158, 159, 160, 161, 162, 163, 164, 165, 166, 167, 168, 169, 170, 171, 172, 173, 174, 175, 176, 177, 178, 179, 180, 181, 182, 183, 184, 185, 186, 187, 188, 189, 190, 191, 192, 193, 194, 195, 196, 197, 198, 199, 200, 201, 202, 203, 204, 205, 206, 207, 208, 209, 210, 211, 212, 213, 214, 215, 216, 217, 218, 219, 220, 221, 222, 223, 224, 225, 226, 227, 228, 229, 230, 231, 232, 233, 234, 235, 236, 237, 238, 239, 240, 241, 242, 243, 244, 245, 246, 247, 248, 249, 250, 251, 252, 253, 254, 255, 256, 257, 258, 259, 260, 261, 262, 263, 264, 265, 266, 267, 268, 269, 270, 271, 272, 273, 274, 275, 276, 277, 278, 279, 280, 281, 282, 283, 284, 285, 286, 287, 288] (by decide +kernel) (by decide +kernel)) (goodIn_sub (fun _ h => List.mem_cons_of_mem _ (List.mem_append_left _ (List.mem_append_left _ (List.mem_append_right _ h)))) (by decide +kernel))) (goodIn_sub (fun _ h => List.mem_cons_of_mem _ (List.mem_append_left _ (List.mem_append_right _ h))) (by decide +kernel))) (goodIn_sub (fun _ h => List.mem_cons_of_mem _ (List.mem_append_right _ h)) (by decide +kernel))
set_option maxRecDepth 20000 in
theorem gL_weighs_X8_setShare : GoodIn wsL_weighs (wsV RL 152 RX8 yX8_setShare wsX8_setShare) := goodIn_app (goodIn_of _ (by decide +kernel)) ggL_weighs_X8_setShare
theorem dL_weighs_0 : decode cL_weighs 0 = .ok (.aload_n 0, 1) := by decide +kernel
theorem dL_weighs_1 : decode cL_weighs 1 = .ok (.iload_n 1, 1) := by decide +kernel
theorem dL_weighs_2 : decode cL_weighs 2 = .ok (.iload_n 2, 1) := by decide +kernel
theorem dL_weighs_3 : decode cL_weighs 3 = .ok (.invokevirtual 152, 3) := by decide +kernel
theorem dL_weighs_6 : decode cL_weighs 6 = .ok (.ireturn, 1) := by decide +kernel
theorem dL_weighs_7 : decode cL_weighs 7 = .ok (.astore_n 3, 1) := by decide +kernel
theorem dL_weighs_8 : decode cL_weighs 8 = .ok (.ldc 128, 2) := by decide +kernel
theorem dL_weighs_10 : decode cL_weighs 10 = .ok (.ireturn, 1) := by decide +kernel
theorem dL_weighs_11 : decode cL_weighs 11 = .ok (.astore_n 3, 1) := by decide +kernel
theorem dL_weighs_12 : decode cL_weighs 12 = .ok (.ldc 103, 2) := by decide +kernel
theorem dL_weighs_14 : decode cL_weighs 14 = .ok (.ireturn, 1) := by decide +kernel
theorem dL_weighs_15 : decode cL_weighs 15 = .ok (.astore_n 3, 1) := by decide +kernel
theorem dL_weighs_16 : decode cL_weighs 16 = .ok (.ldc 77, 2) := by decide +kernel
theorem dL_weighs_18 : decode cL_weighs 18 = .ok (.ireturn, 1) := by decide +kernel
theorem L_weighs_k (hG : GP G) (hA : hasS S a (.inr (.inr (6, ks)))) (hfc : fc ≤ 7) {x1 x2 : Int} (hM : Ct G l yX8_setShare wsX8_setShare fc 0 0 [.ref a, .int (I32 x1), .int (I32 x2)] S n mu la (Dt (some (.int (I32 v))) S n mu' la)) : Ct G l yL_weighs wsL_weighs 8 0 0 [.ref a, .int (I32 x1), .int (I32 x2)] S n mu la (Dt (some (.int (I32 v))) S n mu' la) := by
  refine Ct.ofH (cc := cL_weighs) (nL := 4) (ret := some .int) (hh := [(0, 6, 7, 126), (0, 6, 11, 115), (0, 6, 15, 120)]) [some (.ref a), some (.int (I32 x1)), some (.int (I32 x2)), none] hG (by decide) rfl (Nat.le_of_ble_eq_true rfl) rfl ?_
  rintro X rfl rfl C ht hcl hsl E
  refine V_aload_n C dL_weighs_0 rfl ?_
  refine V_iload_n C dL_weighs_1 rfl ?_
  refine V_iload_n C dL_weighs_2 rfl ?_
  refine V_callVD (nA := 2) C dL_weighs_3 hM gL_weighs_X8_setShare rfl hA rfl (by decide +kernel) rfl (by omega) (by decide) (Nat.le_of_ble_eq_true rfl) ⟨by omega, by omega⟩ rfl ?_
  exact V_ireturn C E dL_weighs_6 (by omega) (by omega) Dt_rfl
theorem L_weighs_o (hG : GP G) (hA : hasS S a (.inr (.inr (6, ks)))) (hfc : fc ≤ 7) {x1 x2 : Int} (hM : Ct G l yX8_setShare wsX8_setShare fc 0 0 [.ref a, .int (I32 x1), .int (I32 x2)] S n mu la (Dt (some (.int (I32 v))) S n mu' la)) : Ct G l yL_weighs wsL_weighs 8 1 6 [.ref a, .int (I32 x1), .int (I32 x2)] S n mu la (Lq S v mu' la) := by
  refine Ct.ofH (cc := cL_weighs) (nL := 4) (ret := some .int) (hh := [(0, 6, 7, 126), (0, 6, 11, 115), (0, 6, 15, 120)]) [some (.ref a), some (.int (I32 x1)), some (.int (I32 x2)), none] hG (by decide) rfl (Nat.le_of_ble_eq_true rfl) rfl ?_
  rintro X rfl rfl C ht hcl hsl E
  refine V_aload_n C dL_weighs_0 rfl ?_
  refine V_iload_n C dL_weighs_1 rfl ?_
  refine V_iload_n C dL_weighs_2 rfl ?_
  refine V_callVD (nA := 2) C dL_weighs_3 hM gL_weighs_X8_setShare rfl hA rfl (by decide +kernel) rfl (by omega) (by decide) (Nat.le_of_ble_eq_true rfl) ⟨by omega, by omega⟩ rfl ?_
  exact V_ireturn C E dL_weighs_6 (by omega) (by omega) ⟨rfl, rfl, rfl, rfl⟩
theorem L_weighs_x1 (hG : GP G) (hGN : GN G) (hA : hasS S a (.inr (.inr (6, ks)))) {x1 x2 : Int} (hM : CtX G l yX8_setShare wsX8_setShare 7 [.ref a, .int (I32 x1), .int (I32 x2)] S n mu la xE1) : Ct G l yL_weighs wsL_weighs 8 1 6 [.ref a, .int (I32 x1), .int (I32 x2)] S n mu la (Lq S (-10000001) mu la) := by
  refine Ct.ofH (cc := cL_weighs) (nL := 4) (ret := some .int) (hh := [(0, 6, 7, 126), (0, 6, 11, 115), (0, 6, 15, 120)]) [some (.ref a), some (.int (I32 x1)), some (.int (I32 x2)), none] hG (by decide) rfl (Nat.le_of_ble_eq_true rfl) rfl ?_
  rintro X rfl rfl C ht hcl hsl E
  have hN := hGN _ C.pe.2.2
  refine V_aload_n C dL_weighs_0 rfl ?_
  refine V_iload_n C dL_weighs_1 rfl ?_
  refine V_iload_n C dL_weighs_2 rfl ?_
  refine V_callVC (nA := 2) C dL_weighs_3 hM gL_weighs_X8_setShare rfl hA rfl (by decide +kernel) rfl (by omega) (by decide) (Nat.le_of_ble_eq_true rfl) ⟨by omega, by omega⟩ rfl (name := xE1) [] ⟨0, 6, 7, 126⟩ [⟨0, 6, 11, 115⟩, ⟨0, 6, 15, 120⟩] ht ?_ (by decide) (by decide) (C.ts _ (by decide +kernel)) (cast_self hN.1.1) (fun q9 n9 => ?_)
  · exact fun _ h9 => absurd h9 List.not_mem_nil
  · refine V_astore_n C dL_weighs_7 rfl (by decide) ?_
    refine V_ldcI C (v := -10000001) dL_weighs_8 (by decide +kernel) ?_
    exact V_ireturn C E dL_weighs_10 (by omega) (by omega) ⟨rfl, rfl, rfl, rfl⟩
theorem L_weighs_x2 (hG : GP G) (hGN : GN G) (hA : hasS S a (.inr (.inr (6, ks)))) {x1 x2 : Int} (hM : CtX G l yX8_setShare wsX8_setShare 7 [.ref a, .int (I32 x1), .int (I32 x2)] S n mu la xE2) : Ct G l yL_weighs wsL_weighs 8 1 6 [.ref a, .int (I32 x1), .int (I32 x2)] S n mu la (Lq S (-10000002) mu la) := by
  refine Ct.ofH (cc := cL_weighs) (nL := 4) (ret := some .int) (hh := [(0, 6, 7, 126), (0, 6, 11, 115), (0, 6, 15, 120)]) [some (.ref a), some (.int (I32 x1)), some (.int (I32 x2)), none] hG (by decide) rfl (Nat.le_of_ble_eq_true rfl) rfl ?_
  rintro X rfl rfl C ht hcl hsl E
  have hN := hGN _ C.pe.2.2
  refine V_aload_n C dL_weighs_0 rfl ?_
  refine V_iload_n C dL_weighs_1 rfl ?_
  refine V_iload_n C dL_weighs_2 rfl ?_
  refine V_callVC (nA := 2) C dL_weighs_3 hM gL_weighs_X8_setShare rfl hA rfl (by decide +kernel) rfl (by omega) (by decide) (Nat.le_of_ble_eq_true rfl) ⟨by omega, by omega⟩ rfl (name := xE2) [⟨0, 6, 7, 126⟩] ⟨0, 6, 11, 115⟩ [⟨0, 6, 15, 120⟩] ht ?_ (by decide) (by decide) (C.ts _ (by decide +kernel)) (cast_self hN.2.1.1) (fun q9 n9 => ?_)
  · exact List.forall_mem_cons.mpr ⟨Or.inr ⟨by decide, xE1, C.ts _ (by decide +kernel), hN.2.1.1⟩, fun _ h9 => absurd h9 List.not_mem_nil⟩
  · refine V_astore_n C dL_weighs_11 rfl (by decide) ?_
    refine V_ldcI C (v := -10000002) dL_weighs_12 (by decide +kernel) ?_
    exact V_ireturn C E dL_weighs_14 (by omega) (by omega) ⟨rfl, rfl, rfl, rfl⟩
theorem L_weighs_x3 (hG : GP G) (hGN : GN G) (hA : hasS S a (.inr (.inr (6, ks)))) {x1 x2 : Int} (hM : CtX G l yX8_setShare wsX8_setShare 7 [.ref a, .int (I32 x1), .int (I32 x2)] S n mu la xE3) : Ct G l yL_weighs wsL_weighs 8 1 6 [.ref a, .int (I32 x1), .int (I32 x2)] S n mu la (Lq S (-10000003) mu la) := by
  refine Ct.ofH (cc := cL_weighs) (nL := 4) (ret := some .int) (hh := [(0, 6, 7, 126), (0, 6, 11, 115), (0, 6, 15, 120)]) [some (.ref a), some (.int (I32 x1)), some (.int (I32 x2)), none] hG (by decide) rfl (Nat.le_of_ble_eq_true rfl) rfl ?_
  rintro X rfl rfl C ht hcl hsl E
  have hN := hGN _ C.pe.2.2
  refine V_aload_n C dL_weighs_0 rfl ?_
  refine V_iload_n C dL_weighs_1 rfl ?_
  refine V_iload_n C dL_weighs_2 rfl ?_
  refine V_callVC (nA := 2) C dL_weighs_3 hM gL_weighs_X8_setShare rfl hA rfl (by decide +kernel) rfl (by omega) (by decide) (Nat.le_of_ble_eq_true rfl) ⟨by omega, by omega⟩ rfl (name := xE3) [⟨0, 6, 7, 126⟩, ⟨0, 6, 11, 115⟩] ⟨0, 6, 15, 120⟩ [] ht ?_ (by decide) (by decide) (C.ts _ (by decide +kernel)) (cast_self hN.2.2.1) (fun q9 n9 => ?_)
  · exact List.forall_mem_cons.mpr ⟨Or.inr ⟨by decide, xE1, C.ts _ (by decide +kernel), hN.2.2.1⟩, List.forall_mem_cons.mpr ⟨Or.inr ⟨by decide, xE2, C.ts _ (by decide +kernel), hN.2.2.2⟩, fun _ h9 => absurd h9 List.not_mem_nil⟩⟩
  · refine V_astore_n C dL_weighs_15 rfl (by decide) ?_
    refine V_ldcI C (v := -10000003) dL_weighs_16 (by decide +kernel) ?_
    exact V_ireturn C E dL_weighs_18 (by omega) (by omega) ⟨rfl, rfl, rfl, rfl⟩
theorem L_weighs (hG : GP G) (hGN : GN G) (hA : hasS S a (.inr (.inr (6, ks)))) (hfc : fc ≤ 7) {x1 x2 : Int} {f : Int} (hc : f = 0 ∨ f = 1 ∨ f = 2 ∨ f = 3) (h0 : f = 0 → Ct G l yX8_setShare wsX8_setShare fc 0 0 [.ref a, .int (I32 x1), .int (I32 x2)] S n mu la (Dt (some (.int (I32 v))) S n mu' la)) (h1 : f ≠ 0 → CtX G l yX8_setShare wsX8_setShare 7 [.ref a, .int (I32 x1), .int (I32 x2)] S n mu la (exn f)) :
    Ct G l yL_weighs wsL_weighs 8 1 6 [.ref a, .int (I32 x1), .int (I32 x2)] S n mu la (Lq S (if f = 0 then v else -10000000 - f) (if f = 0 then mu' else mu) la) := by
  rcases hc with rfl | rfl | rfl | rfl
  · exact L_weighs_o hG hA hfc (h0 rfl)
  · exact L_weighs_x1 hG hGN hA (h1 (by decide))
  · exact L_weighs_x2 hG hGN hA (h1 (by decide))
  · exact L_weighs_x3 hG hGN hA (h1 (by decide))
set_option maxRecDepth 20000 in
theorem ggL_wakes_X8_activate : GoodIn wsL_wakes wsX8_activate := goodIn_ca (goodIn_ca (goodIn_ca (goodIn_r _ [9, 10, 11, 12, 13, 14, 8, 15, 16, 17, 18, 19, 20, 21, 22, 23, 24, 25, 26, 27, 28, 29, 30, 31, 32, 33, 34, 35, 36, 37, 38, 39, 40, 41, 42, 43, 44, 45, 46, 47, 48, 49, 50, 51, 52, 53, 54, 55, 56, 57, 58, 59, 60, 61, 62, 63, 64, 65, 66, 67, 68, 69, 70, 71, 72, 73, 74, 75, 76, 77, 78, 79, 80, 81, 82, 83, 84, 85, 86, 87, 88, 89, 90, 91, 92, 93, 94, 95, 96, 97, 98, 99, 100, 101, 102, 103, 104, 105, 106, 107, 108, 109, 110, 111, 112, 113, 114, 115, 116, 117, 118, 119, 120, 121, 122, 123, 124, 125, 126, 127, 128, 129, 130, 131, 132] (by decide +kernel) (by decide +kernel)) (goodIn_sub (fun _ h => List.mem_cons_of_mem _ (List.mem_append_left _ (List.mem_append_left _ (List.mem_append_right _ h)))) (by decide +kernel))) (goodIn_sub (fun _ h => List.mem_cons_of_mem _ (List.mem_append_left _ (List.mem_append_right _ h))) (by decide +kernel))) (goodIn_sub (fun _ h => List.mem_cons_of_mem _ (List.mem_append_right _ h)) (by decide +kernel))
set_option maxRecDepth 20000 in
theorem gL_wakes_X8_activate : GoodIn wsL_wakes (wsV RL 146 RX8 yX8_activate wsX8_activate) := goodIn_app (goodIn_of _ (by decide +kernel)) ggL_wakes_X8_activate
theorem dL_wakes_0 : decode cL_wakes 0 = .ok (.aload_n 0, 1) := by decide +kernel
theorem dL_wakes_1 : decode cL_wakes 1 = .ok (.iload_n 1, 1) := by decide +kernel
theorem dL_wakes_2 : decode cL_wakes 2 = .ok (.invokevirtual 146, 3) := by decide +kernel
theorem dL_wakes_5 : decode cL_wakes 5 = .ok (.ireturn, 1) := by decide +kernel
theorem dL_wakes_6 : decode cL_wakes 6 = .ok (.astore_n 2, 1) := by decide +kernel
theorem dL_wakes_7 : decode cL_wakes 7 = .ok (.ldc 128, 2) := by decide +kernel
theorem dL_wakes_9 : decode cL_wakes 9 = .ok (.ireturn, 1) := by decide +kernel
theorem dL_wakes_10 : decode cL_wakes 10 = .ok (.astore_n 2, 1) := by decide +kernel
theorem dL_wakes_11 : decode cL_wakes 11 = .ok (.ldc 77, 2) := by decide +kernel
theorem dL_wakes_13 : decode cL_wakes 13 = .ok (.ireturn, 1) := by decide +kernel
theorem L_wakes_k (hG : GP G) (hA : hasS S a (.inr (.inr (6, ks)))) (hfc : fc ≤ 7) {x1 : Int} (hM : Ct G l yX8_activate wsX8_activate fc 0 0 [.ref a, .int (I32 x1)] S n mu la (Dt (some (.int (I32 v))) S n mu' la)) : Ct G l yL_wakes wsL_wakes 8 0 0 [.ref a, .int (I32 x1)] S n mu la (Dt (some (.int (I32 v))) S n mu' la) := by
  refine Ct.ofH (cc := cL_wakes) (nL := 3) (ret := some .int) (hh := [(0, 5, 6, 126), (0, 5, 10, 120)]) [some (.ref a), some (.int (I32 x1)), none] hG (by decide) rfl (Nat.le_of_ble_eq_true rfl) rfl ?_
  rintro X rfl rfl C ht hcl hsl E
  refine V_aload_n C dL_wakes_0 rfl ?_
  refine V_iload_n C dL_wakes_1 rfl ?_
  refine V_callVD (nA := 1) C dL_wakes_2 hM gL_wakes_X8_activate rfl hA rfl (by decide +kernel) rfl (by omega) (by decide) (Nat.le_of_ble_eq_true rfl) ⟨by omega, by omega⟩ rfl ?_
  exact V_ireturn C E dL_wakes_5 (by omega) (by omega) Dt_rfl
theorem L_wakes_o (hG : GP G) (hA : hasS S a (.inr (.inr (6, ks)))) (hfc : fc ≤ 7) {x1 : Int} (hM : Ct G l yX8_activate wsX8_activate fc 0 0 [.ref a, .int (I32 x1)] S n mu la (Dt (some (.int (I32 v))) S n mu' la)) : Ct G l yL_wakes wsL_wakes 8 1 6 [.ref a, .int (I32 x1)] S n mu la (Lq S v mu' la) := by
  refine Ct.ofH (cc := cL_wakes) (nL := 3) (ret := some .int) (hh := [(0, 5, 6, 126), (0, 5, 10, 120)]) [some (.ref a), some (.int (I32 x1)), none] hG (by decide) rfl (Nat.le_of_ble_eq_true rfl) rfl ?_
  rintro X rfl rfl C ht hcl hsl E
  refine V_aload_n C dL_wakes_0 rfl ?_
  refine V_iload_n C dL_wakes_1 rfl ?_
  refine V_callVD (nA := 1) C dL_wakes_2 hM gL_wakes_X8_activate rfl hA rfl (by decide +kernel) rfl (by omega) (by decide) (Nat.le_of_ble_eq_true rfl) ⟨by omega, by omega⟩ rfl ?_
  exact V_ireturn C E dL_wakes_5 (by omega) (by omega) ⟨rfl, rfl, rfl, rfl⟩
theorem L_wakes_x1 (hG : GP G) (hGN : GN G) (hA : hasS S a (.inr (.inr (6, ks)))) {x1 : Int} (hM : CtX G l yX8_activate wsX8_activate 7 [.ref a, .int (I32 x1)] S n mu la xE1) : Ct G l yL_wakes wsL_wakes 8 1 6 [.ref a, .int (I32 x1)] S n mu la (Lq S (-10000001) mu la) := by
  refine Ct.ofH (cc := cL_wakes) (nL := 3) (ret := some .int) (hh := [(0, 5, 6, 126), (0, 5, 10, 120)]) [some (.ref a), some (.int (I32 x1)), none] hG (by decide) rfl (Nat.le_of_ble_eq_true rfl) rfl ?_
  rintro X rfl rfl C ht hcl hsl E
  have hN := hGN _ C.pe.2.2
  refine V_aload_n C dL_wakes_0 rfl ?_
  refine V_iload_n C dL_wakes_1 rfl ?_
  refine V_callVC (nA := 1) C dL_wakes_2 hM gL_wakes_X8_activate rfl hA rfl (by decide +kernel) rfl (by omega) (by decide) (Nat.le_of_ble_eq_true rfl) ⟨by omega, by omega⟩ rfl (name := xE1) [] ⟨0, 5, 6, 126⟩ [⟨0, 5, 10, 120⟩] ht ?_ (by decide) (by decide) (C.ts _ (by decide +kernel)) (cast_self hN.1.1) (fun q9 n9 => ?_)
  · exact fun _ h9 => absurd h9 List.not_mem_nil
  · refine V_astore_n C dL_wakes_6 rfl (by decide) ?_
    refine V_ldcI C (v := -10000001) dL_wakes_7 (by decide +kernel) ?_
    exact V_ireturn C E dL_wakes_9 (by omega) (by omega) ⟨rfl, rfl, rfl, rfl⟩
theorem L_wakes_x3 (hG : GP G) (hGN : GN G) (hA : hasS S a (.inr (.inr (6, ks)))) {x1 : Int} (hM : CtX G l yX8_activate wsX8_activate 7 [.ref a, .int (I32 x1)] S n mu la xE3) : Ct G l yL_wakes wsL_wakes 8 1 6 [.ref a, .int (I32 x1)] S n mu la (Lq S (-10000003) mu la) := by
  refine Ct.ofH (cc := cL_wakes) (nL := 3) (ret := some .int) (hh := [(0, 5, 6, 126), (0, 5, 10, 120)]) [some (.ref a), some (.int (I32 x1)), none] hG (by decide) rfl (Nat.le_of_ble_eq_true rfl) rfl ?_
  rintro X rfl rfl C ht hcl hsl E
  have hN := hGN _ C.pe.2.2
  refine V_aload_n C dL_wakes_0 rfl ?_
  refine V_iload_n C dL_wakes_1 rfl ?_
  refine V_callVC (nA := 1) C dL_wakes_2 hM gL_wakes_X8_activate rfl hA rfl (by decide +kernel) rfl (by omega) (by decide) (Nat.le_of_ble_eq_true rfl) ⟨by omega, by omega⟩ rfl (name := xE3) [⟨0, 5, 6, 126⟩] ⟨0, 5, 10, 120⟩ [] ht ?_ (by decide) (by decide) (C.ts _ (by decide +kernel)) (cast_self hN.2.2.1) (fun q9 n9 => ?_)
  · exact List.forall_mem_cons.mpr ⟨Or.inr ⟨by decide, xE1, C.ts _ (by decide +kernel), hN.2.2.1⟩, fun _ h9 => absurd h9 List.not_mem_nil⟩
  · refine V_astore_n C dL_wakes_10 rfl (by decide) ?_
    refine V_ldcI C (v := -10000003) dL_wakes_11 (by decide +kernel) ?_
    exact V_ireturn C E dL_wakes_13 (by omega) (by omega) ⟨rfl, rfl, rfl, rfl⟩
theorem L_wakes (hG : GP G) (hGN : GN G) (hA : hasS S a (.inr (.inr (6, ks)))) (hfc : fc ≤ 7) {x1 : Int} {f : Int} (hc : f = 0 ∨ f = 1 ∨ f = 3) (h0 : f = 0 → Ct G l yX8_activate wsX8_activate fc 0 0 [.ref a, .int (I32 x1)] S n mu la (Dt (some (.int (I32 v))) S n mu' la)) (h1 : f ≠ 0 → CtX G l yX8_activate wsX8_activate 7 [.ref a, .int (I32 x1)] S n mu la (exn f)) :
    Ct G l yL_wakes wsL_wakes 8 1 6 [.ref a, .int (I32 x1)] S n mu la (Lq S (if f = 0 then v else -10000000 - f) (if f = 0 then mu' else mu) la) := by
  rcases hc with rfl | rfl | rfl
  · exact L_wakes_o hG hA hfc (h0 rfl)
  · exact L_wakes_x1 hG hGN hA (h1 (by decide))
  · exact L_wakes_x3 hG hGN hA (h1 (by decide))
set_option maxRecDepth 20000 in
theorem ggL_paneOf_X8_pane : GoodIn wsL_paneOf wsX8_pane := goodIn_ca (goodIn_ca (goodIn_ca (goodIn_r _ [9, 10, 11, 12, 13, 8, 14, 15, 16, 17, 18, 19, 20, 21, 22, 23, 24, 25, 26, 27, 28, 29, 30, 31, 32, 33, 34, 35, 36, 37, 38, 39, 40, 41, 42, 43, 44, 45, 46, 47, 48, 49, 50, 51, 52, 53, 54, 55, 56, 57, 58, 59, 60, 61, 62, 63, 64, 65, 66, 67, 68, 69, 70, 71, 72, 73, 74, 75, 76, 77, 78, 79, 80, 81, 82, 83, 84, 85, 86, 87, 88, 89, 90, 91, 92, 93, 94, 95, 96, 97, 98, 99, 100, 101, 102, 103, 104, 105, 106, 107, 108, 109, 110, 111, 112, 113, 114, 115, 116, 117, 118, 119, 120, 121, 122, 123, 124, 125, 126, 127, 128, 129, 130, 131] (by decide +kernel) (by decide +kernel)) (goodIn_sub (fun _ h => List.mem_cons_of_mem _ (List.mem_append_left _ (List.mem_append_left _ (List.mem_append_right _ h)))) (by decide +kernel))) (goodIn_sub (fun _ h => List.mem_cons_of_mem _ (List.mem_append_left _ (List.mem_append_right _ h))) (by decide +kernel))) (goodIn_sub (fun _ h => List.mem_cons_of_mem _ (List.mem_append_right _ h)) (by decide +kernel))
set_option maxRecDepth 20000 in
theorem gL_paneOf_X8_pane : GoodIn wsL_paneOf (wsV RL 155 RX8 yX8_pane wsX8_pane) := goodIn_app (goodIn_of _ (by decide +kernel)) ggL_paneOf_X8_pane
theorem dL_paneOf_0 : decode cL_paneOf 0 = .ok (.aload_n 0, 1) := by decide +kernel
theorem dL_paneOf_1 : decode cL_paneOf 1 = .ok (.iload_n 1, 1) := by decide +kernel
theorem dL_paneOf_2 : decode cL_paneOf 2 = .ok (.iload_n 2, 1) := by decide +kernel
theorem dL_paneOf_3 : decode cL_paneOf 3 = .ok (.invokevirtual 155, 3) := by decide +kernel
theorem dL_paneOf_6 : decode cL_paneOf 6 = .ok (.ireturn, 1) := by decide +kernel
theorem dL_paneOf_7 : decode cL_paneOf 7 = .ok (.astore_n 3, 1) := by decide +kernel
theorem dL_paneOf_8 : decode cL_paneOf 8 = .ok (.ldc 128, 2) := by decide +kernel
theorem dL_paneOf_10 : decode cL_paneOf 10 = .ok (.ireturn, 1) := by decide +kernel
theorem dL_paneOf_11 : decode cL_paneOf 11 = .ok (.astore_n 3, 1) := by decide +kernel
theorem dL_paneOf_12 : decode cL_paneOf 12 = .ok (.ldc 103, 2) := by decide +kernel
theorem dL_paneOf_14 : decode cL_paneOf 14 = .ok (.ireturn, 1) := by decide +kernel
theorem L_paneOf_k (hG : GP G) (hA : hasS S a (.inr (.inr (6, ks)))) (hfc : fc ≤ 7) {x1 x2 : Int} (hM : Ct G l yX8_pane wsX8_pane fc 0 0 [.ref a, .int (I32 x1), .int (I32 x2)] S n mu la (Dt (some (.int (I32 v))) S n mu' la)) : Ct G l yL_paneOf wsL_paneOf 8 0 0 [.ref a, .int (I32 x1), .int (I32 x2)] S n mu la (Dt (some (.int (I32 v))) S n mu' la) := by
  refine Ct.ofH (cc := cL_paneOf) (nL := 4) (ret := some .int) (hh := [(0, 6, 7, 126), (0, 6, 11, 115)]) [some (.ref a), some (.int (I32 x1)), some (.int (I32 x2)), none] hG (by decide) rfl (Nat.le_of_ble_eq_true rfl) rfl ?_
  rintro X rfl rfl C ht hcl hsl E
  refine V_aload_n C dL_paneOf_0 rfl ?_
  refine V_iload_n C dL_paneOf_1 rfl ?_
  refine V_iload_n C dL_paneOf_2 rfl ?_
  refine V_callVD (nA := 2) C dL_paneOf_3 hM gL_paneOf_X8_pane rfl hA rfl (by decide +kernel) rfl (by omega) (by decide) (Nat.le_of_ble_eq_true rfl) ⟨by omega, by omega⟩ rfl ?_
  exact V_ireturn C E dL_paneOf_6 (by omega) (by omega) Dt_rfl
theorem L_paneOf_o (hG : GP G) (hA : hasS S a (.inr (.inr (6, ks)))) (hfc : fc ≤ 7) {x1 x2 : Int} (hM : Ct G l yX8_pane wsX8_pane fc 0 0 [.ref a, .int (I32 x1), .int (I32 x2)] S n mu la (Dt (some (.int (I32 v))) S n mu' la)) : Ct G l yL_paneOf wsL_paneOf 8 1 6 [.ref a, .int (I32 x1), .int (I32 x2)] S n mu la (Lq S v mu' la) := by
  refine Ct.ofH (cc := cL_paneOf) (nL := 4) (ret := some .int) (hh := [(0, 6, 7, 126), (0, 6, 11, 115)]) [some (.ref a), some (.int (I32 x1)), some (.int (I32 x2)), none] hG (by decide) rfl (Nat.le_of_ble_eq_true rfl) rfl ?_
  rintro X rfl rfl C ht hcl hsl E
  refine V_aload_n C dL_paneOf_0 rfl ?_
  refine V_iload_n C dL_paneOf_1 rfl ?_
  refine V_iload_n C dL_paneOf_2 rfl ?_
  refine V_callVD (nA := 2) C dL_paneOf_3 hM gL_paneOf_X8_pane rfl hA rfl (by decide +kernel) rfl (by omega) (by decide) (Nat.le_of_ble_eq_true rfl) ⟨by omega, by omega⟩ rfl ?_
  exact V_ireturn C E dL_paneOf_6 (by omega) (by omega) ⟨rfl, rfl, rfl, rfl⟩
theorem L_paneOf_x1 (hG : GP G) (hGN : GN G) (hA : hasS S a (.inr (.inr (6, ks)))) {x1 x2 : Int} (hM : CtX G l yX8_pane wsX8_pane 7 [.ref a, .int (I32 x1), .int (I32 x2)] S n mu la xE1) : Ct G l yL_paneOf wsL_paneOf 8 1 6 [.ref a, .int (I32 x1), .int (I32 x2)] S n mu la (Lq S (-10000001) mu la) := by
  refine Ct.ofH (cc := cL_paneOf) (nL := 4) (ret := some .int) (hh := [(0, 6, 7, 126), (0, 6, 11, 115)]) [some (.ref a), some (.int (I32 x1)), some (.int (I32 x2)), none] hG (by decide) rfl (Nat.le_of_ble_eq_true rfl) rfl ?_
  rintro X rfl rfl C ht hcl hsl E
  have hN := hGN _ C.pe.2.2
  refine V_aload_n C dL_paneOf_0 rfl ?_
  refine V_iload_n C dL_paneOf_1 rfl ?_
  refine V_iload_n C dL_paneOf_2 rfl ?_
  refine V_callVC (nA := 2) C dL_paneOf_3 hM gL_paneOf_X8_pane rfl hA rfl (by decide +kernel) rfl (by omega) (by decide) (Nat.le_of_ble_eq_true rfl) ⟨by omega, by omega⟩ rfl (name := xE1) [] ⟨0, 6, 7, 126⟩ [⟨0, 6, 11, 115⟩] ht ?_ (by decide) (by decide) (C.ts _ (by decide +kernel)) (cast_self hN.1.1) (fun q9 n9 => ?_)
  · exact fun _ h9 => absurd h9 List.not_mem_nil
  · refine V_astore_n C dL_paneOf_7 rfl (by decide) ?_
    refine V_ldcI C (v := -10000001) dL_paneOf_8 (by decide +kernel) ?_
    exact V_ireturn C E dL_paneOf_10 (by omega) (by omega) ⟨rfl, rfl, rfl, rfl⟩
theorem L_paneOf_x2 (hG : GP G) (hGN : GN G) (hA : hasS S a (.inr (.inr (6, ks)))) {x1 x2 : Int} (hM : CtX G l yX8_pane wsX8_pane 7 [.ref a, .int (I32 x1), .int (I32 x2)] S n mu la xE2) : Ct G l yL_paneOf wsL_paneOf 8 1 6 [.ref a, .int (I32 x1), .int (I32 x2)] S n mu la (Lq S (-10000002) mu la) := by
  refine Ct.ofH (cc := cL_paneOf) (nL := 4) (ret := some .int) (hh := [(0, 6, 7, 126), (0, 6, 11, 115)]) [some (.ref a), some (.int (I32 x1)), some (.int (I32 x2)), none] hG (by decide) rfl (Nat.le_of_ble_eq_true rfl) rfl ?_
  rintro X rfl rfl C ht hcl hsl E
  have hN := hGN _ C.pe.2.2
  refine V_aload_n C dL_paneOf_0 rfl ?_
  refine V_iload_n C dL_paneOf_1 rfl ?_
  refine V_iload_n C dL_paneOf_2 rfl ?_
  refine V_callVC (nA := 2) C dL_paneOf_3 hM gL_paneOf_X8_pane rfl hA rfl (by decide +kernel) rfl (by omega) (by decide) (Nat.le_of_ble_eq_true rfl) ⟨by omega, by omega⟩ rfl (name := xE2) [⟨0, 6, 7, 126⟩] ⟨0, 6, 11, 115⟩ [] ht ?_ (by decide) (by decide) (C.ts _ (by decide +kernel)) (cast_self hN.2.1.1) (fun q9 n9 => ?_)
  · exact List.forall_mem_cons.mpr ⟨Or.inr ⟨by decide, xE1, C.ts _ (by decide +kernel), hN.2.1.1⟩, fun _ h9 => absurd h9 List.not_mem_nil⟩
  · refine V_astore_n C dL_paneOf_11 rfl (by decide) ?_
    refine V_ldcI C (v := -10000002) dL_paneOf_12 (by decide +kernel) ?_
    exact V_ireturn C E dL_paneOf_14 (by omega) (by omega) ⟨rfl, rfl, rfl, rfl⟩
theorem L_paneOf (hG : GP G) (hGN : GN G) (hA : hasS S a (.inr (.inr (6, ks)))) (hfc : fc ≤ 7) {x1 x2 : Int} {f : Int} (hc : f = 0 ∨ f = 1 ∨ f = 2) (h0 : f = 0 → Ct G l yX8_pane wsX8_pane fc 0 0 [.ref a, .int (I32 x1), .int (I32 x2)] S n mu la (Dt (some (.int (I32 v))) S n mu' la)) (h1 : f ≠ 0 → CtX G l yX8_pane wsX8_pane 7 [.ref a, .int (I32 x1), .int (I32 x2)] S n mu la (exn f)) :
    Ct G l yL_paneOf wsL_paneOf 8 1 6 [.ref a, .int (I32 x1), .int (I32 x2)] S n mu la (Lq S (if f = 0 then v else -10000000 - f) (if f = 0 then mu' else mu) la) := by
  rcases hc with rfl | rfl | rfl
  · exact L_paneOf_o hG hA hfc (h0 rfl)
  · exact L_paneOf_x1 hG hGN hA (h1 (by decide))
  · exact L_paneOf_x2 hG hGN hA (h1 (by decide))
set_option maxRecDepth 20000 in
theorem ggL_splitOf_X8_split : GoodIn wsL_splitOf wsX8_split := goodIn_ca (goodIn_ca (goodIn_ca (goodIn_r _ [9, 10, 11, 12, 13, 8, 14, 15, 16, 17, 18, 19, 20, 21, 22, 23, 24, 25, 26, 27, 28, 29, 30, 31, 32, 33, 34, 35, 36, 37, 38, 39, 40, 41, 42, 43, 44, 45, 46, 47, 48, 49, 50, 51, 52, 53, 54, 55, 56, 57, 58, 59, 60, 61, 62, 63, 64, 65, 66, 67, 68, 69, 70, 71, 72, 73, 74, 75, 76, 77, 78, 79, 80, 81, 82, 83, 84, 85, 86, 87, 88, 89, 90, 91, 92, 93, 94, 95, 96, 97, 98, 99, 100, 101, 102, 103, 104, 105, 106, 107, 108, 109, 110] (by decide +kernel) (by decide +kernel)) (goodIn_sub (fun _ h => List.mem_cons_of_mem _ (List.mem_append_left _ (List.mem_append_left _ (List.mem_append_right _ h)))) (by decide +kernel))) (goodIn_sub (fun _ h => List.mem_cons_of_mem _ (List.mem_append_left _ (List.mem_append_right _ h))) (by decide +kernel))) (goodIn_sub (fun _ h => List.mem_cons_of_mem _ (List.mem_append_right _ h)) (by decide +kernel))
set_option maxRecDepth 20000 in
theorem gL_splitOf_X8_split : GoodIn wsL_splitOf (wsV RL 158 RX8 yX8_split wsX8_split) := goodIn_app (goodIn_of _ (by decide +kernel)) ggL_splitOf_X8_split
theorem dL_splitOf_0 : decode cL_splitOf 0 = .ok (.aload_n 0, 1) := by decide +kernel
theorem dL_splitOf_1 : decode cL_splitOf 1 = .ok (.iload_n 1, 1) := by decide +kernel
theorem dL_splitOf_2 : decode cL_splitOf 2 = .ok (.iload_n 2, 1) := by decide +kernel
theorem dL_splitOf_3 : decode cL_splitOf 3 = .ok (.iload_n 3, 1) := by decide +kernel
theorem dL_splitOf_4 : decode cL_splitOf 4 = .ok (.invokevirtual 158, 3) := by decide +kernel
theorem dL_splitOf_7 : decode cL_splitOf 7 = .ok (.ireturn, 1) := by decide +kernel
theorem dL_splitOf_8 : decode cL_splitOf 8 = .ok (.astore 4, 2) := by decide +kernel
theorem dL_splitOf_10 : decode cL_splitOf 10 = .ok (.ldc 128, 2) := by decide +kernel
theorem dL_splitOf_12 : decode cL_splitOf 12 = .ok (.ireturn, 1) := by decide +kernel
theorem dL_splitOf_13 : decode cL_splitOf 13 = .ok (.astore 4, 2) := by decide +kernel
theorem dL_splitOf_15 : decode cL_splitOf 15 = .ok (.ldc 103, 2) := by decide +kernel
theorem dL_splitOf_17 : decode cL_splitOf 17 = .ok (.ireturn, 1) := by decide +kernel
theorem L_splitOf_k (hG : GP G) (hA : hasS S a (.inr (.inr (6, ks)))) (hfc : fc ≤ 7) {x1 x2 x3 : Int} (hM : Ct G l yX8_split wsX8_split fc 0 0 [.ref a, .int (I32 x1), .int (I32 x2), .int (I32 x3)] S n mu la (Dt (some (.int (I32 v))) S n mu' la)) : Ct G l yL_splitOf wsL_splitOf 8 0 0 [.ref a, .int (I32 x1), .int (I32 x2), .int (I32 x3)] S n mu la (Dt (some (.int (I32 v))) S n mu' la) := by
  refine Ct.ofH (cc := cL_splitOf) (nL := 5) (ret := some .int) (hh := [(0, 7, 8, 126), (0, 7, 13, 115)]) [some (.ref a), some (.int (I32 x1)), some (.int (I32 x2)), some (.int (I32 x3)), none] hG (by decide) rfl (Nat.le_of_ble_eq_true rfl) rfl ?_
  rintro X rfl rfl C ht hcl hsl E
  refine V_aload_n C dL_splitOf_0 rfl ?_
  refine V_iload_n C dL_splitOf_1 rfl ?_
  refine V_iload_n C dL_splitOf_2 rfl ?_
  refine V_iload_n C dL_splitOf_3 rfl ?_
  refine V_callVD (nA := 3) C dL_splitOf_4 hM gL_splitOf_X8_split rfl hA rfl (by decide +kernel) rfl (by omega) (by decide) (Nat.le_of_ble_eq_true rfl) ⟨by omega, by omega⟩ rfl ?_
  exact V_ireturn C E dL_splitOf_7 (by omega) (by omega) Dt_rfl
theorem L_splitOf_o (hG : GP G) (hA : hasS S a (.inr (.inr (6, ks)))) (hfc : fc ≤ 7) {x1 x2 x3 : Int} (hM : Ct G l yX8_split wsX8_split fc 0 0 [.ref a, .int (I32 x1), .int (I32 x2), .int (I32 x3)] S n mu la (Dt (some (.int (I32 v))) S n mu' la)) : Ct G l yL_splitOf wsL_splitOf 8 1 6 [.ref a, .int (I32 x1), .int (I32 x2), .int (I32 x3)] S n mu la (Lq S v mu' la) := by
  refine Ct.ofH (cc := cL_splitOf) (nL := 5) (ret := some .int) (hh := [(0, 7, 8, 126), (0, 7, 13, 115)]) [some (.ref a), some (.int (I32 x1)), some (.int (I32 x2)), some (.int (I32 x3)), none] hG (by decide) rfl (Nat.le_of_ble_eq_true rfl) rfl ?_
  rintro X rfl rfl C ht hcl hsl E
  refine V_aload_n C dL_splitOf_0 rfl ?_
  refine V_iload_n C dL_splitOf_1 rfl ?_
  refine V_iload_n C dL_splitOf_2 rfl ?_
  refine V_iload_n C dL_splitOf_3 rfl ?_
  refine V_callVD (nA := 3) C dL_splitOf_4 hM gL_splitOf_X8_split rfl hA rfl (by decide +kernel) rfl (by omega) (by decide) (Nat.le_of_ble_eq_true rfl) ⟨by omega, by omega⟩ rfl ?_
  exact V_ireturn C E dL_splitOf_7 (by omega) (by omega) ⟨rfl, rfl, rfl, rfl⟩
theorem L_splitOf_x1 (hG : GP G) (hGN : GN G) (hA : hasS S a (.inr (.inr (6, ks)))) {x1 x2 x3 : Int} (hM : CtX G l yX8_split wsX8_split 7 [.ref a, .int (I32 x1), .int (I32 x2), .int (I32 x3)] S n mu la xE1) : Ct G l yL_splitOf wsL_splitOf 8 1 6 [.ref a, .int (I32 x1), .int (I32 x2), .int (I32 x3)] S n mu la (Lq S (-10000001) mu la) := by
  refine Ct.ofH (cc := cL_splitOf) (nL := 5) (ret := some .int) (hh := [(0, 7, 8, 126), (0, 7, 13, 115)]) [some (.ref a), some (.int (I32 x1)), some (.int (I32 x2)), some (.int (I32 x3)), none] hG (by decide) rfl (Nat.le_of_ble_eq_true rfl) rfl ?_
  rintro X rfl rfl C ht hcl hsl E
  have hN := hGN _ C.pe.2.2
  refine V_aload_n C dL_splitOf_0 rfl ?_
  refine V_iload_n C dL_splitOf_1 rfl ?_
  refine V_iload_n C dL_splitOf_2 rfl ?_
  refine V_iload_n C dL_splitOf_3 rfl ?_
  refine V_callVC (nA := 3) C dL_splitOf_4 hM gL_splitOf_X8_split rfl hA rfl (by decide +kernel) rfl (by omega) (by decide) (Nat.le_of_ble_eq_true rfl) ⟨by omega, by omega⟩ rfl (name := xE1) [] ⟨0, 7, 8, 126⟩ [⟨0, 7, 13, 115⟩] ht ?_ (by decide) (by decide) (C.ts _ (by decide +kernel)) (cast_self hN.1.1) (fun q9 n9 => ?_)
  · exact fun _ h9 => absurd h9 List.not_mem_nil
  · refine V_astore C dL_splitOf_8 rfl (by decide) ?_
    refine V_ldcI C (v := -10000001) dL_splitOf_10 (by decide +kernel) ?_
    exact V_ireturn C E dL_splitOf_12 (by omega) (by omega) ⟨rfl, rfl, rfl, rfl⟩
theorem L_splitOf_x2 (hG : GP G) (hGN : GN G) (hA : hasS S a (.inr (.inr (6, ks)))) {x1 x2 x3 : Int} (hM : CtX G l yX8_split wsX8_split 7 [.ref a, .int (I32 x1), .int (I32 x2), .int (I32 x3)] S n mu la xE2) : Ct G l yL_splitOf wsL_splitOf 8 1 6 [.ref a, .int (I32 x1), .int (I32 x2), .int (I32 x3)] S n mu la (Lq S (-10000002) mu la) := by
  refine Ct.ofH (cc := cL_splitOf) (nL := 5) (ret := some .int) (hh := [(0, 7, 8, 126), (0, 7, 13, 115)]) [some (.ref a), some (.int (I32 x1)), some (.int (I32 x2)), some (.int (I32 x3)), none] hG (by decide) rfl (Nat.le_of_ble_eq_true rfl) rfl ?_
  rintro X rfl rfl C ht hcl hsl E
  have hN := hGN _ C.pe.2.2
  refine V_aload_n C dL_splitOf_0 rfl ?_
  refine V_iload_n C dL_splitOf_1 rfl ?_
  refine V_iload_n C dL_splitOf_2 rfl ?_
  refine V_iload_n C dL_splitOf_3 rfl ?_
  refine V_callVC (nA := 3) C dL_splitOf_4 hM gL_splitOf_X8_split rfl hA rfl (by decide +kernel) rfl (by omega) (by decide) (Nat.le_of_ble_eq_true rfl) ⟨by omega, by omega⟩ rfl (name := xE2) [⟨0, 7, 8, 126⟩] ⟨0, 7, 13, 115⟩ [] ht ?_ (by decide) (by decide) (C.ts _ (by decide +kernel)) (cast_self hN.2.1.1) (fun q9 n9 => ?_)
  · exact List.forall_mem_cons.mpr ⟨Or.inr ⟨by decide, xE1, C.ts _ (by decide +kernel), hN.2.1.1⟩, fun _ h9 => absurd h9 List.not_mem_nil⟩
  · refine V_astore C dL_splitOf_13 rfl (by decide) ?_
    refine V_ldcI C (v := -10000002) dL_splitOf_15 (by decide +kernel) ?_
    exact V_ireturn C E dL_splitOf_17 (by omega) (by omega) ⟨rfl, rfl, rfl, rfl⟩
theorem L_splitOf (hG : GP G) (hGN : GN G) (hA : hasS S a (.inr (.inr (6, ks)))) (hfc : fc ≤ 7) {x1 x2 x3 : Int} {f : Int} (hc : f = 0 ∨ f = 1 ∨ f = 2) (h0 : f = 0 → Ct G l yX8_split wsX8_split fc 0 0 [.ref a, .int (I32 x1), .int (I32 x2), .int (I32 x3)] S n mu la (Dt (some (.int (I32 v))) S n mu' la)) (h1 : f ≠ 0 → CtX G l yX8_split wsX8_split 7 [.ref a, .int (I32 x1), .int (I32 x2), .int (I32 x3)] S n mu la (exn f)) :
    Ct G l yL_splitOf wsL_splitOf 8 1 6 [.ref a, .int (I32 x1), .int (I32 x2), .int (I32 x3)] S n mu la (Lq S (if f = 0 then v else -10000000 - f) (if f = 0 then mu' else mu) la) := by
  rcases hc with rfl | rfl | rfl
  · exact L_splitOf_o hG hA hfc (h0 rfl)
  · exact L_splitOf_x1 hG hGN hA (h1 (by decide))
  · exact L_splitOf_x2 hG hGN hA (h1 (by decide))
set_option maxRecDepth 20000 in
theorem ggL_tabOf_X8_tab : GoodIn wsL_tabOf wsX8_tab := goodIn_ca (goodIn_ca (goodIn_ca (goodIn_r _ [9, 10, 11, 12, 13, 8, 14, 15, 16, 17, 18, 19, 20, 21, 22, 23, 24, 25, 26, 27, 28, 29, 30, 31, 32, 33, 34, 35, 36, 37, 38, 39, 40, 41, 42, 43, 44, 45, 46, 47, 48, 49, 50, 51, 52, 53, 54, 55, 56, 57, 58, 59, 60] (by decide +kernel) (by decide +kernel)) (goodIn_sub (fun _ h => List.mem_cons_of_mem _ (List.mem_append_left _ (List.mem_append_left _ (List.mem_append_right _ h)))) (by decide +kernel))) (goodIn_sub (fun _ h => List.mem_cons_of_mem _ (List.mem_append_left _ (List.mem_append_right _ h))) (by decide +kernel))) (goodIn_sub (fun _ h => List.mem_cons_of_mem _ (List.mem_append_right _ h)) (by decide +kernel))
set_option maxRecDepth 20000 in
theorem gL_tabOf_X8_tab : GoodIn wsL_tabOf (wsV RL 161 RX8 yX8_tab wsX8_tab) := goodIn_app (goodIn_of _ (by decide +kernel)) ggL_tabOf_X8_tab
theorem dL_tabOf_0 : decode cL_tabOf 0 = .ok (.aload_n 0, 1) := by decide +kernel
theorem dL_tabOf_1 : decode cL_tabOf 1 = .ok (.iload_n 1, 1) := by decide +kernel
theorem dL_tabOf_2 : decode cL_tabOf 2 = .ok (.iload_n 2, 1) := by decide +kernel
theorem dL_tabOf_3 : decode cL_tabOf 3 = .ok (.invokevirtual 161, 3) := by decide +kernel
theorem dL_tabOf_6 : decode cL_tabOf 6 = .ok (.ireturn, 1) := by decide +kernel
theorem dL_tabOf_7 : decode cL_tabOf 7 = .ok (.astore_n 3, 1) := by decide +kernel
theorem dL_tabOf_8 : decode cL_tabOf 8 = .ok (.ldc 128, 2) := by decide +kernel
theorem dL_tabOf_10 : decode cL_tabOf 10 = .ok (.ireturn, 1) := by decide +kernel
theorem dL_tabOf_11 : decode cL_tabOf 11 = .ok (.astore_n 3, 1) := by decide +kernel
theorem dL_tabOf_12 : decode cL_tabOf 12 = .ok (.ldc 103, 2) := by decide +kernel
theorem dL_tabOf_14 : decode cL_tabOf 14 = .ok (.ireturn, 1) := by decide +kernel
theorem L_tabOf_k (hG : GP G) (hA : hasS S a (.inr (.inr (6, ks)))) (hfc : fc ≤ 7) {x1 x2 : Int} (hM : Ct G l yX8_tab wsX8_tab fc 0 0 [.ref a, .int (I32 x1), .int (I32 x2)] S n mu la (Dt (some (.int (I32 v))) S n mu' la)) : Ct G l yL_tabOf wsL_tabOf 8 0 0 [.ref a, .int (I32 x1), .int (I32 x2)] S n mu la (Dt (some (.int (I32 v))) S n mu' la) := by
  refine Ct.ofH (cc := cL_tabOf) (nL := 4) (ret := some .int) (hh := [(0, 6, 7, 126), (0, 6, 11, 115)]) [some (.ref a), some (.int (I32 x1)), some (.int (I32 x2)), none] hG (by decide) rfl (Nat.le_of_ble_eq_true rfl) rfl ?_
  rintro X rfl rfl C ht hcl hsl E
  refine V_aload_n C dL_tabOf_0 rfl ?_
  refine V_iload_n C dL_tabOf_1 rfl ?_
  refine V_iload_n C dL_tabOf_2 rfl ?_
  refine V_callVD (nA := 2) C dL_tabOf_3 hM gL_tabOf_X8_tab rfl hA rfl (by decide +kernel) rfl (by omega) (by decide) (Nat.le_of_ble_eq_true rfl) ⟨by omega, by omega⟩ rfl ?_
  exact V_ireturn C E dL_tabOf_6 (by omega) (by omega) Dt_rfl
theorem L_tabOf_o (hG : GP G) (hA : hasS S a (.inr (.inr (6, ks)))) (hfc : fc ≤ 7) {x1 x2 : Int} (hM : Ct G l yX8_tab wsX8_tab fc 0 0 [.ref a, .int (I32 x1), .int (I32 x2)] S n mu la (Dt (some (.int (I32 v))) S n mu' la)) : Ct G l yL_tabOf wsL_tabOf 8 1 6 [.ref a, .int (I32 x1), .int (I32 x2)] S n mu la (Lq S v mu' la) := by
  refine Ct.ofH (cc := cL_tabOf) (nL := 4) (ret := some .int) (hh := [(0, 6, 7, 126), (0, 6, 11, 115)]) [some (.ref a), some (.int (I32 x1)), some (.int (I32 x2)), none] hG (by decide) rfl (Nat.le_of_ble_eq_true rfl) rfl ?_
  rintro X rfl rfl C ht hcl hsl E
  refine V_aload_n C dL_tabOf_0 rfl ?_
  refine V_iload_n C dL_tabOf_1 rfl ?_
  refine V_iload_n C dL_tabOf_2 rfl ?_
  refine V_callVD (nA := 2) C dL_tabOf_3 hM gL_tabOf_X8_tab rfl hA rfl (by decide +kernel) rfl (by omega) (by decide) (Nat.le_of_ble_eq_true rfl) ⟨by omega, by omega⟩ rfl ?_
  exact V_ireturn C E dL_tabOf_6 (by omega) (by omega) ⟨rfl, rfl, rfl, rfl⟩
theorem L_tabOf_x1 (hG : GP G) (hGN : GN G) (hA : hasS S a (.inr (.inr (6, ks)))) {x1 x2 : Int} (hM : CtX G l yX8_tab wsX8_tab 7 [.ref a, .int (I32 x1), .int (I32 x2)] S n mu la xE1) : Ct G l yL_tabOf wsL_tabOf 8 1 6 [.ref a, .int (I32 x1), .int (I32 x2)] S n mu la (Lq S (-10000001) mu la) := by
  refine Ct.ofH (cc := cL_tabOf) (nL := 4) (ret := some .int) (hh := [(0, 6, 7, 126), (0, 6, 11, 115)]) [some (.ref a), some (.int (I32 x1)), some (.int (I32 x2)), none] hG (by decide) rfl (Nat.le_of_ble_eq_true rfl) rfl ?_
  rintro X rfl rfl C ht hcl hsl E
  have hN := hGN _ C.pe.2.2
  refine V_aload_n C dL_tabOf_0 rfl ?_
  refine V_iload_n C dL_tabOf_1 rfl ?_
  refine V_iload_n C dL_tabOf_2 rfl ?_
  refine V_callVC (nA := 2) C dL_tabOf_3 hM gL_tabOf_X8_tab rfl hA rfl (by decide +kernel) rfl (by omega) (by decide) (Nat.le_of_ble_eq_true rfl) ⟨by omega, by omega⟩ rfl (name := xE1) [] ⟨0, 6, 7, 126⟩ [⟨0, 6, 11, 115⟩] ht ?_ (by decide) (by decide) (C.ts _ (by decide +kernel)) (cast_self hN.1.1) (fun q9 n9 => ?_)
  · exact fun _ h9 => absurd h9 List.not_mem_nil
  · refine V_astore_n C dL_tabOf_7 rfl (by decide) ?_
    refine V_ldcI C (v := -10000001) dL_tabOf_8 (by decide +kernel) ?_
    exact V_ireturn C E dL_tabOf_10 (by omega) (by omega) ⟨rfl, rfl, rfl, rfl⟩
theorem L_tabOf_x2 (hG : GP G) (hGN : GN G) (hA : hasS S a (.inr (.inr (6, ks)))) {x1 x2 : Int} (hM : CtX G l yX8_tab wsX8_tab 7 [.ref a, .int (I32 x1), .int (I32 x2)] S n mu la xE2) : Ct G l yL_tabOf wsL_tabOf 8 1 6 [.ref a, .int (I32 x1), .int (I32 x2)] S n mu la (Lq S (-10000002) mu la) := by
  refine Ct.ofH (cc := cL_tabOf) (nL := 4) (ret := some .int) (hh := [(0, 6, 7, 126), (0, 6, 11, 115)]) [some (.ref a), some (.int (I32 x1)), some (.int (I32 x2)), none] hG (by decide) rfl (Nat.le_of_ble_eq_true rfl) rfl ?_
  rintro X rfl rfl C ht hcl hsl E
  have hN := hGN _ C.pe.2.2
  refine V_aload_n C dL_tabOf_0 rfl ?_
  refine V_iload_n C dL_tabOf_1 rfl ?_
  refine V_iload_n C dL_tabOf_2 rfl ?_
  refine V_callVC (nA := 2) C dL_tabOf_3 hM gL_tabOf_X8_tab rfl hA rfl (by decide +kernel) rfl (by omega) (by decide) (Nat.le_of_ble_eq_true rfl) ⟨by omega, by omega⟩ rfl (name := xE2) [⟨0, 6, 7, 126⟩] ⟨0, 6, 11, 115⟩ [] ht ?_ (by decide) (by decide) (C.ts _ (by decide +kernel)) (cast_self hN.2.1.1) (fun q9 n9 => ?_)
  · exact List.forall_mem_cons.mpr ⟨Or.inr ⟨by decide, xE1, C.ts _ (by decide +kernel), hN.2.1.1⟩, fun _ h9 => absurd h9 List.not_mem_nil⟩
  · refine V_astore_n C dL_tabOf_11 rfl (by decide) ?_
    refine V_ldcI C (v := -10000002) dL_tabOf_12 (by decide +kernel) ?_
    exact V_ireturn C E dL_tabOf_14 (by omega) (by omega) ⟨rfl, rfl, rfl, rfl⟩
theorem L_tabOf (hG : GP G) (hGN : GN G) (hA : hasS S a (.inr (.inr (6, ks)))) (hfc : fc ≤ 7) {x1 x2 : Int} {f : Int} (hc : f = 0 ∨ f = 1 ∨ f = 2) (h0 : f = 0 → Ct G l yX8_tab wsX8_tab fc 0 0 [.ref a, .int (I32 x1), .int (I32 x2)] S n mu la (Dt (some (.int (I32 v))) S n mu' la)) (h1 : f ≠ 0 → CtX G l yX8_tab wsX8_tab 7 [.ref a, .int (I32 x1), .int (I32 x2)] S n mu la (exn f)) :
    Ct G l yL_tabOf wsL_tabOf 8 1 6 [.ref a, .int (I32 x1), .int (I32 x2)] S n mu la (Lq S (if f = 0 then v else -10000000 - f) (if f = 0 then mu' else mu) la) := by
  rcases hc with rfl | rfl | rfl
  · exact L_tabOf_o hG hA hfc (h0 rfl)
  · exact L_tabOf_x1 hG hGN hA (h1 (by decide))
  · exact L_tabOf_x2 hG hGN hA (h1 (by decide))
set_option maxRecDepth 20000 in
theorem ggL_groupOf_X8_group : GoodIn wsL_groupOf wsX8_group := goodIn_ca (goodIn_ca (goodIn_ca (goodIn_r _ [7, 8, 9, 10, 11, 6, 12, 13, 14, 15, 16, 17, 18, 19, 20, 21, 22, 23, 24, 25, 26, 27, 28, 29, 30, 31, 32, 33, 34, 35, 36, 37, 38, 39, 40, 41, 42, 43, 44, 45, 46, 47, 48, 49, 50, 51, 52, 53, 54, 55, 56, 57, 58, 59, 60, 61, 62, 63, 64, 65, 66, 67, 68, 69, 70, 71, 72] (by decide +kernel) (by decide +kernel)) (goodIn_sub (fun _ h => List.mem_cons_of_mem _ (List.mem_append_left _ (List.mem_append_left _ (List.mem_append_right _ h)))) (by decide +kernel))) (goodIn_sub (fun _ h => List.mem_cons_of_mem _ (List.mem_append_left _ (List.mem_append_right _ h))) (by decide +kernel))) (goodIn_sub (fun _ h => List.mem_cons_of_mem _ (List.mem_append_right _ h)) (by decide +kernel))
set_option maxRecDepth 20000 in
theorem gL_groupOf_X8_group : GoodIn wsL_groupOf (wsV RL 164 RX8 yX8_group wsX8_group) := goodIn_app (goodIn_of _ (by decide +kernel)) ggL_groupOf_X8_group
theorem dL_groupOf_0 : decode cL_groupOf 0 = .ok (.aload_n 0, 1) := by decide +kernel
theorem dL_groupOf_1 : decode cL_groupOf 1 = .ok (.iload_n 1, 1) := by decide +kernel
theorem dL_groupOf_2 : decode cL_groupOf 2 = .ok (.invokevirtual 164, 3) := by decide +kernel
theorem dL_groupOf_5 : decode cL_groupOf 5 = .ok (.ireturn, 1) := by decide +kernel
theorem dL_groupOf_6 : decode cL_groupOf 6 = .ok (.astore_n 2, 1) := by decide +kernel
theorem dL_groupOf_7 : decode cL_groupOf 7 = .ok (.ldc 103, 2) := by decide +kernel
theorem dL_groupOf_9 : decode cL_groupOf 9 = .ok (.ireturn, 1) := by decide +kernel
theorem L_groupOf_k (hG : GP G) (hA : hasS S a (.inr (.inr (6, ks)))) (hfc : fc ≤ 7) {x1 : Int} (hM : Ct G l yX8_group wsX8_group fc 0 0 [.ref a, .int (I32 x1)] S n mu la (Dt (some (.int (I32 v))) S n mu' la)) : Ct G l yL_groupOf wsL_groupOf 8 0 0 [.ref a, .int (I32 x1)] S n mu la (Dt (some (.int (I32 v))) S n mu' la) := by
  refine Ct.ofH (cc := cL_groupOf) (nL := 3) (ret := some .int) (hh := [(0, 5, 6, 115)]) [some (.ref a), some (.int (I32 x1)), none] hG (by decide) rfl (Nat.le_of_ble_eq_true rfl) rfl ?_
  rintro X rfl rfl C ht hcl hsl E
  refine V_aload_n C dL_groupOf_0 rfl ?_
  refine V_iload_n C dL_groupOf_1 rfl ?_
  refine V_callVD (nA := 1) C dL_groupOf_2 hM gL_groupOf_X8_group rfl hA rfl (by decide +kernel) rfl (by omega) (by decide) (Nat.le_of_ble_eq_true rfl) ⟨by omega, by omega⟩ rfl ?_
  exact V_ireturn C E dL_groupOf_5 (by omega) (by omega) Dt_rfl
theorem L_groupOf_o (hG : GP G) (hA : hasS S a (.inr (.inr (6, ks)))) (hfc : fc ≤ 7) {x1 : Int} (hM : Ct G l yX8_group wsX8_group fc 0 0 [.ref a, .int (I32 x1)] S n mu la (Dt (some (.int (I32 v))) S n mu' la)) : Ct G l yL_groupOf wsL_groupOf 8 1 6 [.ref a, .int (I32 x1)] S n mu la (Lq S v mu' la) := by
  refine Ct.ofH (cc := cL_groupOf) (nL := 3) (ret := some .int) (hh := [(0, 5, 6, 115)]) [some (.ref a), some (.int (I32 x1)), none] hG (by decide) rfl (Nat.le_of_ble_eq_true rfl) rfl ?_
  rintro X rfl rfl C ht hcl hsl E
  refine V_aload_n C dL_groupOf_0 rfl ?_
  refine V_iload_n C dL_groupOf_1 rfl ?_
  refine V_callVD (nA := 1) C dL_groupOf_2 hM gL_groupOf_X8_group rfl hA rfl (by decide +kernel) rfl (by omega) (by decide) (Nat.le_of_ble_eq_true rfl) ⟨by omega, by omega⟩ rfl ?_
  exact V_ireturn C E dL_groupOf_5 (by omega) (by omega) ⟨rfl, rfl, rfl, rfl⟩
theorem L_groupOf_x2 (hG : GP G) (hGN : GN G) (hA : hasS S a (.inr (.inr (6, ks)))) {x1 : Int} (hM : CtX G l yX8_group wsX8_group 7 [.ref a, .int (I32 x1)] S n mu la xE2) : Ct G l yL_groupOf wsL_groupOf 8 1 6 [.ref a, .int (I32 x1)] S n mu la (Lq S (-10000002) mu la) := by
  refine Ct.ofH (cc := cL_groupOf) (nL := 3) (ret := some .int) (hh := [(0, 5, 6, 115)]) [some (.ref a), some (.int (I32 x1)), none] hG (by decide) rfl (Nat.le_of_ble_eq_true rfl) rfl ?_
  rintro X rfl rfl C ht hcl hsl E
  have hN := hGN _ C.pe.2.2
  refine V_aload_n C dL_groupOf_0 rfl ?_
  refine V_iload_n C dL_groupOf_1 rfl ?_
  refine V_callVC (nA := 1) C dL_groupOf_2 hM gL_groupOf_X8_group rfl hA rfl (by decide +kernel) rfl (by omega) (by decide) (Nat.le_of_ble_eq_true rfl) ⟨by omega, by omega⟩ rfl (name := xE2) [] ⟨0, 5, 6, 115⟩ [] ht ?_ (by decide) (by decide) (C.ts _ (by decide +kernel)) (cast_self hN.2.1.1) (fun q9 n9 => ?_)
  · exact fun _ h9 => absurd h9 List.not_mem_nil
  · refine V_astore_n C dL_groupOf_6 rfl (by decide) ?_
    refine V_ldcI C (v := -10000002) dL_groupOf_7 (by decide +kernel) ?_
    exact V_ireturn C E dL_groupOf_9 (by omega) (by omega) ⟨rfl, rfl, rfl, rfl⟩
theorem L_groupOf (hG : GP G) (hGN : GN G) (hA : hasS S a (.inr (.inr (6, ks)))) (hfc : fc ≤ 7) {x1 : Int} {f : Int} (hc : f = 0 ∨ f = 2) (h0 : f = 0 → Ct G l yX8_group wsX8_group fc 0 0 [.ref a, .int (I32 x1)] S n mu la (Dt (some (.int (I32 v))) S n mu' la)) (h1 : f ≠ 0 → CtX G l yX8_group wsX8_group 7 [.ref a, .int (I32 x1)] S n mu la (exn f)) :
    Ct G l yL_groupOf wsL_groupOf 8 1 6 [.ref a, .int (I32 x1)] S n mu la (Lq S (if f = 0 then v else -10000000 - f) (if f = 0 then mu' else mu) la) := by
  rcases hc with rfl | rfl
  · exact L_groupOf_o hG hA hfc (h0 rfl)
  · exact L_groupOf_x2 hG hGN hA (h1 (by decide))
set_option maxRecDepth 20000 in
theorem ggL_floatOf_X8_floating : GoodIn wsL_floatOf wsX8_floating := goodIn_ca (goodIn_ca (goodIn_ca (goodIn_r _ [7, 8, 9, 10, 6, 11, 12, 13, 14, 15, 16, 17, 18, 19, 20, 21, 22, 23, 24, 25, 26, 27, 28, 29, 30, 31, 32, 33, 34, 35, 36, 37, 38, 39, 40, 41, 42, 43, 44, 45, 46, 47, 48, 49, 50, 51, 52, 53, 54, 55] (by decide +kernel) (by decide +kernel)) (goodIn_sub (fun _ h => List.mem_cons_of_mem _ (List.mem_append_left _ (List.mem_append_left _ (List.mem_append_right _ h)))) (by decide +kernel))) (goodIn_sub (fun _ h => List.mem_cons_of_mem _ (List.mem_append_left _ (List.mem_append_right _ h))) (by decide +kernel))) (goodIn_sub (fun _ h => List.mem_cons_of_mem _ (List.mem_append_right _ h)) (by decide +kernel))
set_option maxRecDepth 20000 in
theorem gL_floatOf_X8_floating : GoodIn wsL_floatOf (wsV RL 167 RX8 yX8_floating wsX8_floating) := goodIn_app (goodIn_of _ (by decide +kernel)) ggL_floatOf_X8_floating
theorem dL_floatOf_0 : decode cL_floatOf 0 = .ok (.aload_n 0, 1) := by decide +kernel
theorem dL_floatOf_1 : decode cL_floatOf 1 = .ok (.iload_n 1, 1) := by decide +kernel
theorem dL_floatOf_2 : decode cL_floatOf 2 = .ok (.invokevirtual 167, 3) := by decide +kernel
theorem dL_floatOf_5 : decode cL_floatOf 5 = .ok (.ireturn, 1) := by decide +kernel
theorem dL_floatOf_6 : decode cL_floatOf 6 = .ok (.astore_n 2, 1) := by decide +kernel
theorem dL_floatOf_7 : decode cL_floatOf 7 = .ok (.ldc 103, 2) := by decide +kernel
theorem dL_floatOf_9 : decode cL_floatOf 9 = .ok (.ireturn, 1) := by decide +kernel
theorem L_floatOf_k (hG : GP G) (hA : hasS S a (.inr (.inr (6, ks)))) (hfc : fc ≤ 7) {x1 : Int} (hM : Ct G l yX8_floating wsX8_floating fc 0 0 [.ref a, .int (I32 x1)] S n mu la (Dt (some (.int (I32 v))) S n mu' la)) : Ct G l yL_floatOf wsL_floatOf 8 0 0 [.ref a, .int (I32 x1)] S n mu la (Dt (some (.int (I32 v))) S n mu' la) := by
  refine Ct.ofH (cc := cL_floatOf) (nL := 3) (ret := some .int) (hh := [(0, 5, 6, 115)]) [some (.ref a), some (.int (I32 x1)), none] hG (by decide) rfl (Nat.le_of_ble_eq_true rfl) rfl ?_
  rintro X rfl rfl C ht hcl hsl E
  refine V_aload_n C dL_floatOf_0 rfl ?_
  refine V_iload_n C dL_floatOf_1 rfl ?_
  refine V_callVD (nA := 1) C dL_floatOf_2 hM gL_floatOf_X8_floating rfl hA rfl (by decide +kernel) rfl (by omega) (by decide) (Nat.le_of_ble_eq_true rfl) ⟨by omega, by omega⟩ rfl ?_
  exact V_ireturn C E dL_floatOf_5 (by omega) (by omega) Dt_rfl
theorem L_floatOf_o (hG : GP G) (hA : hasS S a (.inr (.inr (6, ks)))) (hfc : fc ≤ 7) {x1 : Int} (hM : Ct G l yX8_floating wsX8_floating fc 0 0 [.ref a, .int (I32 x1)] S n mu la (Dt (some (.int (I32 v))) S n mu' la)) : Ct G l yL_floatOf wsL_floatOf 8 1 6 [.ref a, .int (I32 x1)] S n mu la (Lq S v mu' la) := by
  refine Ct.ofH (cc := cL_floatOf) (nL := 3) (ret := some .int) (hh := [(0, 5, 6, 115)]) [some (.ref a), some (.int (I32 x1)), none] hG (by decide) rfl (Nat.le_of_ble_eq_true rfl) rfl ?_
  rintro X rfl rfl C ht hcl hsl E
  refine V_aload_n C dL_floatOf_0 rfl ?_
  refine V_iload_n C dL_floatOf_1 rfl ?_
  refine V_callVD (nA := 1) C dL_floatOf_2 hM gL_floatOf_X8_floating rfl hA rfl (by decide +kernel) rfl (by omega) (by decide) (Nat.le_of_ble_eq_true rfl) ⟨by omega, by omega⟩ rfl ?_
  exact V_ireturn C E dL_floatOf_5 (by omega) (by omega) ⟨rfl, rfl, rfl, rfl⟩
theorem L_floatOf_x2 (hG : GP G) (hGN : GN G) (hA : hasS S a (.inr (.inr (6, ks)))) {x1 : Int} (hM : CtX G l yX8_floating wsX8_floating 7 [.ref a, .int (I32 x1)] S n mu la xE2) : Ct G l yL_floatOf wsL_floatOf 8 1 6 [.ref a, .int (I32 x1)] S n mu la (Lq S (-10000002) mu la) := by
  refine Ct.ofH (cc := cL_floatOf) (nL := 3) (ret := some .int) (hh := [(0, 5, 6, 115)]) [some (.ref a), some (.int (I32 x1)), none] hG (by decide) rfl (Nat.le_of_ble_eq_true rfl) rfl ?_
  rintro X rfl rfl C ht hcl hsl E
  have hN := hGN _ C.pe.2.2
  refine V_aload_n C dL_floatOf_0 rfl ?_
  refine V_iload_n C dL_floatOf_1 rfl ?_
  refine V_callVC (nA := 1) C dL_floatOf_2 hM gL_floatOf_X8_floating rfl hA rfl (by decide +kernel) rfl (by omega) (by decide) (Nat.le_of_ble_eq_true rfl) ⟨by omega, by omega⟩ rfl (name := xE2) [] ⟨0, 5, 6, 115⟩ [] ht ?_ (by decide) (by decide) (C.ts _ (by decide +kernel)) (cast_self hN.2.1.1) (fun q9 n9 => ?_)
  · exact fun _ h9 => absurd h9 List.not_mem_nil
  · refine V_astore_n C dL_floatOf_6 rfl (by decide) ?_
    refine V_ldcI C (v := -10000002) dL_floatOf_7 (by decide +kernel) ?_
    exact V_ireturn C E dL_floatOf_9 (by omega) (by omega) ⟨rfl, rfl, rfl, rfl⟩
theorem L_floatOf (hG : GP G) (hGN : GN G) (hA : hasS S a (.inr (.inr (6, ks)))) (hfc : fc ≤ 7) {x1 : Int} {f : Int} (hc : f = 0 ∨ f = 2) (h0 : f = 0 → Ct G l yX8_floating wsX8_floating fc 0 0 [.ref a, .int (I32 x1)] S n mu la (Dt (some (.int (I32 v))) S n mu' la)) (h1 : f ≠ 0 → CtX G l yX8_floating wsX8_floating 7 [.ref a, .int (I32 x1)] S n mu la (exn f)) :
    Ct G l yL_floatOf wsL_floatOf 8 1 6 [.ref a, .int (I32 x1)] S n mu la (Lq S (if f = 0 then v else -10000000 - f) (if f = 0 then mu' else mu) la) := by
  rcases hc with rfl | rfl
  · exact L_floatOf_o hG hA hfc (h0 rfl)
  · exact L_floatOf_x2 hG hGN hA (h1 (by decide))
set_option maxRecDepth 20000 in
theorem ggL_wholeOf_X8_whole : GoodIn wsL_wholeOf wsX8_whole := goodIn_ca (goodIn_ca (goodIn_ca (goodIn_r _ [7, 8, 9, 10, 11, 6, 12, 13, 14, 15, 16, 17, 18, 19, 20, 21, 22, 23, 24, 25, 26, 27, 28, 29, 30, 31, 32, 33, 34, 35, 36, 37, 38, 39, 40, 41, 42, 43, 44, 45, 46, 47, 48, 49, 50, 51, 52, 53, 54, 55, 56, 57, 58, 59, 60, 61, 62, 63, 64, 65, 66, 67, 68, 69, 70, 71, 72, 73, 74, 75, 76, 77, 78, 79, 80, 81, 82, 83, 84, 85, 86, 87, 88, 89, 90, 91, 92, 93, 94, 95, 96, 97, 98, 99, 100, 101, 102, 103] (by decide +kernel) (by decide +kernel)) (goodIn_sub (fun _ h => List.mem_cons_of_mem _ (List.mem_append_left _ (List.mem_append_left _ (List.mem_append_right _ h)))) (by decide +kernel))) (goodIn_sub (fun _ h => List.mem_cons_of_mem _ (List.mem_append_left _ (List.mem_append_right _ h))) (by decide +kernel))) (goodIn_sub (fun _ h => List.mem_cons_of_mem _ (List.mem_append_right _ h)) (by decide +kernel))
set_option maxRecDepth 20000 in
theorem gL_wholeOf_X8_whole : GoodIn wsL_wholeOf (wsV RL 170 RX8 yX8_whole wsX8_whole) := goodIn_app (goodIn_of _ (by decide +kernel)) ggL_wholeOf_X8_whole
theorem dL_wholeOf_0 : decode cL_wholeOf 0 = .ok (.aload_n 0, 1) := by decide +kernel
theorem dL_wholeOf_1 : decode cL_wholeOf 1 = .ok (.iload_n 1, 1) := by decide +kernel
theorem dL_wholeOf_2 : decode cL_wholeOf 2 = .ok (.invokevirtual 170, 3) := by decide +kernel
theorem dL_wholeOf_5 : decode cL_wholeOf 5 = .ok (.ireturn, 1) := by decide +kernel
theorem dL_wholeOf_6 : decode cL_wholeOf 6 = .ok (.astore_n 2, 1) := by decide +kernel
theorem dL_wholeOf_7 : decode cL_wholeOf 7 = .ok (.ldc 103, 2) := by decide +kernel
theorem dL_wholeOf_9 : decode cL_wholeOf 9 = .ok (.ireturn, 1) := by decide +kernel
theorem L_wholeOf_k (hG : GP G) (hA : hasS S a (.inr (.inr (6, ks)))) (hfc : fc ≤ 7) {x1 : Int} (hM : Ct G l yX8_whole wsX8_whole fc 0 0 [.ref a, .int (I32 x1)] S n mu la (Dt (some (.int (I32 v))) S n mu' la)) : Ct G l yL_wholeOf wsL_wholeOf 8 0 0 [.ref a, .int (I32 x1)] S n mu la (Dt (some (.int (I32 v))) S n mu' la) := by
  refine Ct.ofH (cc := cL_wholeOf) (nL := 3) (ret := some .int) (hh := [(0, 5, 6, 115)]) [some (.ref a), some (.int (I32 x1)), none] hG (by decide) rfl (Nat.le_of_ble_eq_true rfl) rfl ?_
  rintro X rfl rfl C ht hcl hsl E
  refine V_aload_n C dL_wholeOf_0 rfl ?_
  refine V_iload_n C dL_wholeOf_1 rfl ?_
  refine V_callVD (nA := 1) C dL_wholeOf_2 hM gL_wholeOf_X8_whole rfl hA rfl (by decide +kernel) rfl (by omega) (by decide) (Nat.le_of_ble_eq_true rfl) ⟨by omega, by omega⟩ rfl ?_
  exact V_ireturn C E dL_wholeOf_5 (by omega) (by omega) Dt_rfl
theorem L_wholeOf_o (hG : GP G) (hA : hasS S a (.inr (.inr (6, ks)))) (hfc : fc ≤ 7) {x1 : Int} (hM : Ct G l yX8_whole wsX8_whole fc 0 0 [.ref a, .int (I32 x1)] S n mu la (Dt (some (.int (I32 v))) S n mu' la)) : Ct G l yL_wholeOf wsL_wholeOf 8 1 6 [.ref a, .int (I32 x1)] S n mu la (Lq S v mu' la) := by
  refine Ct.ofH (cc := cL_wholeOf) (nL := 3) (ret := some .int) (hh := [(0, 5, 6, 115)]) [some (.ref a), some (.int (I32 x1)), none] hG (by decide) rfl (Nat.le_of_ble_eq_true rfl) rfl ?_
  rintro X rfl rfl C ht hcl hsl E
  refine V_aload_n C dL_wholeOf_0 rfl ?_
  refine V_iload_n C dL_wholeOf_1 rfl ?_
  refine V_callVD (nA := 1) C dL_wholeOf_2 hM gL_wholeOf_X8_whole rfl hA rfl (by decide +kernel) rfl (by omega) (by decide) (Nat.le_of_ble_eq_true rfl) ⟨by omega, by omega⟩ rfl ?_
  exact V_ireturn C E dL_wholeOf_5 (by omega) (by omega) ⟨rfl, rfl, rfl, rfl⟩
theorem L_wholeOf_x2 (hG : GP G) (hGN : GN G) (hA : hasS S a (.inr (.inr (6, ks)))) {x1 : Int} (hM : CtX G l yX8_whole wsX8_whole 7 [.ref a, .int (I32 x1)] S n mu la xE2) : Ct G l yL_wholeOf wsL_wholeOf 8 1 6 [.ref a, .int (I32 x1)] S n mu la (Lq S (-10000002) mu la) := by
  refine Ct.ofH (cc := cL_wholeOf) (nL := 3) (ret := some .int) (hh := [(0, 5, 6, 115)]) [some (.ref a), some (.int (I32 x1)), none] hG (by decide) rfl (Nat.le_of_ble_eq_true rfl) rfl ?_
  rintro X rfl rfl C ht hcl hsl E
  have hN := hGN _ C.pe.2.2
  refine V_aload_n C dL_wholeOf_0 rfl ?_
  refine V_iload_n C dL_wholeOf_1 rfl ?_
  refine V_callVC (nA := 1) C dL_wholeOf_2 hM gL_wholeOf_X8_whole rfl hA rfl (by decide +kernel) rfl (by omega) (by decide) (Nat.le_of_ble_eq_true rfl) ⟨by omega, by omega⟩ rfl (name := xE2) [] ⟨0, 5, 6, 115⟩ [] ht ?_ (by decide) (by decide) (C.ts _ (by decide +kernel)) (cast_self hN.2.1.1) (fun q9 n9 => ?_)
  · exact fun _ h9 => absurd h9 List.not_mem_nil
  · refine V_astore_n C dL_wholeOf_6 rfl (by decide) ?_
    refine V_ldcI C (v := -10000002) dL_wholeOf_7 (by decide +kernel) ?_
    exact V_ireturn C E dL_wholeOf_9 (by omega) (by omega) ⟨rfl, rfl, rfl, rfl⟩
theorem L_wholeOf (hG : GP G) (hGN : GN G) (hA : hasS S a (.inr (.inr (6, ks)))) (hfc : fc ≤ 7) {x1 : Int} {f : Int} (hc : f = 0 ∨ f = 2) (h0 : f = 0 → Ct G l yX8_whole wsX8_whole fc 0 0 [.ref a, .int (I32 x1)] S n mu la (Dt (some (.int (I32 v))) S n mu' la)) (h1 : f ≠ 0 → CtX G l yX8_whole wsX8_whole 7 [.ref a, .int (I32 x1)] S n mu la (exn f)) :
    Ct G l yL_wholeOf wsL_wholeOf 8 1 6 [.ref a, .int (I32 x1)] S n mu la (Lq S (if f = 0 then v else -10000000 - f) (if f = 0 then mu' else mu) la) := by
  rcases hc with rfl | rfl
  · exact L_wholeOf_o hG hA hfc (h0 rfl)
  · exact L_wholeOf_x2 hG hGN hA (h1 (by decide))
end LH
