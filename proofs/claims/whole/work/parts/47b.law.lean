/-! THE LAW'S HELPERS: the class's call answers (0, the answer in the row) or throws (the code of the exception) -/
theorem asg_self (vm : Vm) (c : ClassId) : vm.assignable c c = true := by
  show vm.assignableAux _ c c = true
  unfold Vm.assignableAux
  simp
theorem cast_self {E T : String} {args : Array Value} {U : State} (h : va_Nc E T U) : (Cond.castable E E).before args U = true := by
  obtain ⟨c, t, h1, -, -⟩ := h
  simp [Cond.before, Cond.holds, Cond.value, h1, asg_self]
abbrev xE1 : String := "java/lang/IndexOutOfBoundsException"
abbrev xE2 : String := "java/lang/IllegalArgumentException"
abbrev xE3 : String := "java/lang/IllegalStateException"
theorem exn_1 : exn 1 = xE1 := rfl
theorem exn_2 : exn 2 = xE2 := rfl
theorem exn_3 : exn 3 = xE3 := rfl
/-- no one of the three exceptions is another -/
def NX (U : State) : Prop := (va_Nc xE1 xE2 U ∧ va_Nc xE1 xE3 U) ∧ (va_Nc xE2 xE1 U ∧ va_Nc xE2 xE3 U) ∧ va_Nc xE3 xE1 U ∧ va_Nc xE3 xE2 U
def GN (G : Gx) : Prop := ∀ U, G.2.2.2.2 U → NX U
def Lp (S : Sh) (c : Int) (mu1 : Mem) (la1 : Lam) : Option Value → Sh → Nat → Mem → Lam → Prop := fun o' S' _ mu' la' => o' = some (.int (I32 c)) ∧ S' = S ∧ mu' = mu1 ∧ la' = la1
section LH
variable {G : Gx} {l : Launch} {S : Sh} {n : Nat} {mu mu' : Mem} {la : Lam} {a o fc : Nat} {ks : List Sk} {v : Int}
set_option maxRecDepth 20000 in
theorem ggL_setWindow_X8_setWindow : GoodIn wsL_setWindow wsX8_setWindow := goodIn_ca (goodIn_ca (goodIn_ca (goodIn_r _ [6, 7, 8, 9, 10, 5, 11, 12, 13, 14, 15, 16, 17, 18, 19, 20, 21, 22, 23, 24, 25, 26, 27, 28, 29, 30, 31, 32, 33, 34, 35, 36, 37, 38, 39, 40, 41, 42, 43, 44, 45, 46, 47, 48, 49, 50, 51, 52, 53, 54, 55, 56, 57, 58, 59, 60, 61, 62, 63, 64, 65, 66, 67, 68, 69, 70, 71, 72, 73, 74, 75, 76, 77, 78, 79, 80, 81, 82, 83, 84, 85, 86, 87, 88, 89, 90, 91, 92, 93, 94, 95, 96, 97, 98, 99, 100, 101, 102, 103, 104, 105, 106, 107, 108, 109, 110, 111, 112, 113, 114, 115, 116, 117, 118, 119, 120, 121, 122, 123, 124, 125, 126, 127, 128, 129, 130, 131, 132, 133, 134, 135, 136, 137, 138, 139, 140, 141, 142, 143, 144, 145, 146, 147, 148, 149, 150, 151, 152, 153, 154, 155, 156, 157, 158, 159, 160, 161, 162, 163, 164, 165, 166, 167, 168, 169, 170, 171, 172, 173, 174, 175, 176, 177, 178, 179, 180, 181, 182, 183, 184, 185, 186, 187, 188, 189, 190, 191, 192, 193, 194, 195, 196, 197, 198, 199, 200, 201, 202, 203, 204, 205, 206, 207, 208, 209, 210, 211, 212, 213, 214, 215, 216, 217, 218, 219, 220, 221, 222, 223, 224, 225, 226, 227, 228, 229, 230, 231, 232, 233, 234, 235, 236, 237, 238, 239, 240, 241, 242, 243, 244, 245, 246, 247, 248, 249, 250, 251, 252, 253, 254, 255, 256, 257, 258, 259, 260, 261, 262, 263, 264, 265, 266, 267, 268, 269, 270, 271, 272, 273] (by decide +kernel) (by decide +kernel)) (goodIn_sub (fun _ h => List.mem_cons_of_mem _ (List.mem_append_left _ (List.mem_append_left _ (List.mem_append_right _ h)))) (by decide +kernel))) (goodIn_sub (fun _ h => List.mem_cons_of_mem _ (List.mem_append_left _ (List.mem_append_right _ h))) (by decide +kernel))) (goodIn_sub (fun _ h => List.mem_cons_of_mem _ (List.mem_append_right _ h)) (by decide +kernel))
set_option maxRecDepth 20000 in
theorem gL_setWindow_X8_setWindow : GoodIn wsL_setWindow (wsV RL 7 RX8 yX8_setWindow wsX8_setWindow) := goodIn_app (goodIn_of _ (by decide +kernel)) ggL_setWindow_X8_setWindow
theorem dL_setWindow_0 : decode cL_setWindow 0 = .ok (.aload_n 3, 1) := by decide +kernel
theorem dL_setWindow_1 : decode cL_setWindow 1 = .ok (.iconst 0, 1) := by decide +kernel
theorem dL_setWindow_2 : decode cL_setWindow 2 = .ok (.aload_n 0, 1) := by decide +kernel
theorem dL_setWindow_3 : decode cL_setWindow 3 = .ok (.iload_n 1, 1) := by decide +kernel
theorem dL_setWindow_4 : decode cL_setWindow 4 = .ok (.iload_n 2, 1) := by decide +kernel
theorem dL_setWindow_5 : decode cL_setWindow 5 = .ok (.invokevirtual 7, 3) := by decide +kernel
theorem dL_setWindow_8 : decode cL_setWindow 8 = .ok (.i2l, 1) := by decide +kernel
theorem dL_setWindow_9 : decode cL_setWindow 9 = .ok (.lastore, 1) := by decide +kernel
theorem dL_setWindow_10 : decode cL_setWindow 10 = .ok (.goto 7, 3) := by decide +kernel
theorem dL_setWindow_13 : decode cL_setWindow 13 = .ok (.astore 4, 2) := by decide +kernel
theorem dL_setWindow_15 : decode cL_setWindow 15 = .ok (.iconst 1, 1) := by decide +kernel
theorem dL_setWindow_16 : decode cL_setWindow 16 = .ok (.ireturn, 1) := by decide +kernel
theorem dL_setWindow_17 : decode cL_setWindow 17 = .ok (.iconst 0, 1) := by decide +kernel
theorem dL_setWindow_18 : decode cL_setWindow 18 = .ok (.ireturn, 1) := by decide +kernel
theorem L_setWindow_k (hG : GP G) (hO : hasS S o (.inl (1, 1))) (hA : hasS S a (.inr (.inr (6, ks)))) (hfc : fc ≤ 8) {x1 x2 : Int} (hM : Ct G l yX8_setWindow wsX8_setWindow fc 0 0 [.ref a, .int (I32 x1), .int (I32 x2)] S n mu la (Dt (some (.int (I32 v))) S n mu' la)) : Ct G l yL_setWindow wsL_setWindow 9 1 6 [.ref a, .int (I32 x1), .int (I32 x2), .ref o] S n mu la (Lp S 0 mu' (upl la o 0 (I32 v).toInt64)) := by
  refine Ct.ofH (cc := cL_setWindow) (nL := 5) (ret := some .int) (hh := [(0, 10, 13, 13)]) [some (.ref a), some (.int (I32 x1)), some (.int (I32 x2)), some (.ref o), none] hG (by decide) rfl (Nat.le_of_ble_eq_true rfl) rfl ?_
  rintro X rfl rfl C ht hcl hsl E
  refine V_aload_n C dL_setWindow_0 rfl ?_
  refine V_iconst C dL_setWindow_1 ?_
  refine V_aload_n C dL_setWindow_2 rfl ?_
  refine V_iload_n C dL_setWindow_3 rfl ?_
  refine V_iload_n C dL_setWindow_4 rfl ?_
  refine V_callVD (nA := 2) C dL_setWindow_5 hM gL_setWindow_X8_setWindow rfl hA rfl (by decide +kernel) rfl (by omega) (by decide) (Nat.le_of_ble_eq_true rfl) ⟨by omega, by omega⟩ rfl ?_
  refine V_i2l C dL_setWindow_8 ?_
  refine V_last C dL_setWindow_9 hO (by decide) (by decide) ?_
  refine V_goto C 17 dL_setWindow_10 (by decide) ?_
  refine V_iconst C dL_setWindow_17 ?_
  exact V_ireturn C E dL_setWindow_18 (by omega) (by omega) ⟨rfl, rfl, rfl, rfl⟩
theorem L_setWindow_x2 (hG : GP G) (hGN : GN G) (hA : hasS S a (.inr (.inr (6, ks)))) {x1 x2 : Int} (hM : CtX G l yX8_setWindow wsX8_setWindow 7 [.ref a, .int (I32 x1), .int (I32 x2)] S n mu la xE2) : Ct G l yL_setWindow wsL_setWindow 9 1 6 [.ref a, .int (I32 x1), .int (I32 x2), .ref o] S n mu la (Lp S 1 mu la) := by
  refine Ct.ofH (cc := cL_setWindow) (nL := 5) (ret := some .int) (hh := [(0, 10, 13, 13)]) [some (.ref a), some (.int (I32 x1)), some (.int (I32 x2)), some (.ref o), none] hG (by decide) rfl (Nat.le_of_ble_eq_true rfl) rfl ?_
  rintro X rfl rfl C ht hcl hsl E
  have hN := hGN _ C.pe.2.2
  refine V_aload_n C dL_setWindow_0 rfl ?_
  refine V_iconst C dL_setWindow_1 ?_
  refine V_aload_n C dL_setWindow_2 rfl ?_
  refine V_iload_n C dL_setWindow_3 rfl ?_
  refine V_iload_n C dL_setWindow_4 rfl ?_
  refine V_callVC (nA := 2) C dL_setWindow_5 hM gL_setWindow_X8_setWindow rfl hA rfl (by decide +kernel) rfl (by omega) (by decide) (Nat.le_of_ble_eq_true rfl) ⟨by omega, by omega⟩ rfl (name := xE2) [] ⟨0, 10, 13, 13⟩ [] ht ?_ (by decide) (by decide) (C.ts _ (by decide +kernel)) (cast_self hN.2.1.1) (fun q9 n9 => ?_)
  · exact fun _ h9 => absurd h9 List.not_mem_nil
  · refine V_astore C dL_setWindow_13 rfl (by decide) ?_
    refine V_iconst C dL_setWindow_15 ?_
    exact V_ireturn C E dL_setWindow_16 (by omega) (by omega) ⟨rfl, rfl, rfl, rfl⟩
theorem L_setWindow (hG : GP G) (hGN : GN G) (hO : hasS S o (.inl (1, 1))) (hA : hasS S a (.inr (.inr (6, ks)))) (hfc : fc ≤ 8) {x1 x2 : Int} {f c : Int} (hc : (f = 0 ∧ c = 0) ∨ (f = 2 ∧ c = 1)) (h0 : f = 0 → Ct G l yX8_setWindow wsX8_setWindow fc 0 0 [.ref a, .int (I32 x1), .int (I32 x2)] S n mu la (Dt (some (.int (I32 v))) S n mu' la)) (h1 : f ≠ 0 → CtX G l yX8_setWindow wsX8_setWindow 7 [.ref a, .int (I32 x1), .int (I32 x2)] S n mu la (exn f)) :
    Ct G l yL_setWindow wsL_setWindow 9 1 6 [.ref a, .int (I32 x1), .int (I32 x2), .ref o] S n mu la (Lp S c (if f = 0 then mu' else mu) (if f = 0 then upl la o 0 (I32 v).toInt64 else la)) := by
  rcases hc with ⟨rfl, rfl⟩ | ⟨rfl, rfl⟩
  · exact L_setWindow_k hG hO hA hfc (h0 rfl)
  · exact L_setWindow_x2 hG hGN hA (h1 (by decide))
set_option maxRecDepth 20000 in
theorem ggL_addPane_X8_addPane : GoodIn wsL_addPane wsX8_addPane := goodIn_ca (goodIn_ca (goodIn_ca (goodIn_r _ [7, 8, 9, 10, 11, 12, 6, 13, 14, 15, 16, 17, 18, 19, 20, 21, 22, 23, 24, 25, 26, 27, 28, 29, 30, 31, 32, 33, 34, 35, 36, 37, 38, 39, 40, 41, 42, 43, 44, 45, 46, 47, 48, 49, 50, 51, 52, 53, 54, 55, 56, 57, 58, 59, 60, 61, 62, 63, 64, 65, 66, 67, 68, 69, 70, 71, 72, 73, 74, 75, 76, 77, 78, 79, 80, 81, 82, 83, 84, 85, 86, 87, 88, 89, 90, 91, 92, 93, 94, 95, 96, 97, 98, 99, 100, 101, 102, 103, 104, 105, 106, 107, 108, 109, 110, 111, 112, 113, 114, 115, 116, 117, 118, 119, 120, 121, 122, 123, 124, 125, 126, 127, 128, 129, 130, 131, 132, 133, 134, 135, 136, 137, 138, 139, 140, 141, 142, 143, 144, 145, 146, 147, 148, 149, 150, 151, 152, 153, 154, 155, 156, 157, 158, 159, 160, 161, 162, 163, 164, 165, 166, 167, 168, 169, 170, 171, 172, 173, 174, 175, 176, 177, 178, 179, 180, 181, 182, 183, 184, 185, 186, 187, 188, 189, 190, 191, 192, 193, 194, 195, 196, 197, 198, 199, 200, 201, 202, 203, 204, 205, 206, 207, 208, 209, 210, 211, 212, 213, 214, 215, 216, 217, 218, 219, 220, 221, 222, 223, 224, 225, 226, 227, 228, 229, 230, 231, 232, 233, 234, 235, 236, 237, 238, 239, 240, 241, 242, 243, 244, 245, 246, 247, 248, 249, 250, 251, 252, 253, 254, 255, 256, 257, 258, 259, 260, 261, 262, 263, 264, 265, 266, 267, 268, 269, 270, 271, 272, 273, 274, 275, 276, 277, 278, 279, 280, 281, 282, 283, 284, 285, 286] (by decide +kernel) (by decide +kernel)) (goodIn_sub (fun _ h => List.mem_cons_of_mem _ (List.mem_append_left _ (List.mem_append_left _ (List.mem_append_right _ h)))) (by decide +kernel))) (goodIn_sub (fun _ h => List.mem_cons_of_mem _ (List.mem_append_left _ (List.mem_append_right _ h))) (by decide +kernel))) (goodIn_sub (fun _ h => List.mem_cons_of_mem _ (List.mem_append_right _ h)) (by decide +kernel))
set_option maxRecDepth 20000 in
theorem gL_addPane_X8_addPane : GoodIn wsL_addPane (wsV RL 15 RX8 yX8_addPane wsX8_addPane) := goodIn_app (goodIn_of _ (by decide +kernel)) ggL_addPane_X8_addPane
theorem dL_addPane_0 : decode cL_addPane 0 = .ok (.aload_n 3, 1) := by decide +kernel
theorem dL_addPane_1 : decode cL_addPane 1 = .ok (.iconst 0, 1) := by decide +kernel
theorem dL_addPane_2 : decode cL_addPane 2 = .ok (.aload_n 0, 1) := by decide +kernel
theorem dL_addPane_3 : decode cL_addPane 3 = .ok (.iload_n 1, 1) := by decide +kernel
theorem dL_addPane_4 : decode cL_addPane 4 = .ok (.iload_n 2, 1) := by decide +kernel
theorem dL_addPane_5 : decode cL_addPane 5 = .ok (.invokevirtual 15, 3) := by decide +kernel
theorem dL_addPane_8 : decode cL_addPane 8 = .ok (.i2l, 1) := by decide +kernel
theorem dL_addPane_9 : decode cL_addPane 9 = .ok (.lastore, 1) := by decide +kernel
theorem dL_addPane_10 : decode cL_addPane 10 = .ok (.goto 11, 3) := by decide +kernel
theorem dL_addPane_13 : decode cL_addPane 13 = .ok (.astore 4, 2) := by decide +kernel
theorem dL_addPane_15 : decode cL_addPane 15 = .ok (.iconst 1, 1) := by decide +kernel
theorem dL_addPane_16 : decode cL_addPane 16 = .ok (.ireturn, 1) := by decide +kernel
theorem dL_addPane_17 : decode cL_addPane 17 = .ok (.astore 4, 2) := by decide +kernel
theorem dL_addPane_19 : decode cL_addPane 19 = .ok (.iconst 2, 1) := by decide +kernel
theorem dL_addPane_20 : decode cL_addPane 20 = .ok (.ireturn, 1) := by decide +kernel
theorem dL_addPane_21 : decode cL_addPane 21 = .ok (.iconst 0, 1) := by decide +kernel
theorem dL_addPane_22 : decode cL_addPane 22 = .ok (.ireturn, 1) := by decide +kernel
theorem L_addPane_k (hG : GP G) (hO : hasS S o (.inl (1, 1))) (hA : hasS S a (.inr (.inr (6, ks)))) (hfc : fc ≤ 8) {x1 x2 : Int} (hM : Ct G l yX8_addPane wsX8_addPane fc 0 0 [.ref a, .int (I32 x1), .int (I32 x2)] S n mu la (Dt (some (.int (I32 v))) S n mu' la)) : Ct G l yL_addPane wsL_addPane 9 1 6 [.ref a, .int (I32 x1), .int (I32 x2), .ref o] S n mu la (Lp S 0 mu' (upl la o 0 (I32 v).toInt64)) := by
  refine Ct.ofH (cc := cL_addPane) (nL := 5) (ret := some .int) (hh := [(0, 10, 13, 13), (0, 10, 17, 18)]) [some (.ref a), some (.int (I32 x1)), some (.int (I32 x2)), some (.ref o), none] hG (by decide) rfl (Nat.le_of_ble_eq_true rfl) rfl ?_
  rintro X rfl rfl C ht hcl hsl E
  refine V_aload_n C dL_addPane_0 rfl ?_
  refine V_iconst C dL_addPane_1 ?_
  refine V_aload_n C dL_addPane_2 rfl ?_
  refine V_iload_n C dL_addPane_3 rfl ?_
  refine V_iload_n C dL_addPane_4 rfl ?_
  refine V_callVD (nA := 2) C dL_addPane_5 hM gL_addPane_X8_addPane rfl hA rfl (by decide +kernel) rfl (by omega) (by decide) (Nat.le_of_ble_eq_true rfl) ⟨by omega, by omega⟩ rfl ?_
  refine V_i2l C dL_addPane_8 ?_
  refine V_last C dL_addPane_9 hO (by decide) (by decide) ?_
  refine V_goto C 21 dL_addPane_10 (by decide) ?_
  refine V_iconst C dL_addPane_21 ?_
  exact V_ireturn C E dL_addPane_22 (by omega) (by omega) ⟨rfl, rfl, rfl, rfl⟩
theorem L_addPane_x2 (hG : GP G) (hGN : GN G) (hA : hasS S a (.inr (.inr (6, ks)))) {x1 x2 : Int} (hM : CtX G l yX8_addPane wsX8_addPane 7 [.ref a, .int (I32 x1), .int (I32 x2)] S n mu la xE2) : Ct G l yL_addPane wsL_addPane 9 1 6 [.ref a, .int (I32 x1), .int (I32 x2), .ref o] S n mu la (Lp S 1 mu la) := by
  refine Ct.ofH (cc := cL_addPane) (nL := 5) (ret := some .int) (hh := [(0, 10, 13, 13), (0, 10, 17, 18)]) [some (.ref a), some (.int (I32 x1)), some (.int (I32 x2)), some (.ref o), none] hG (by decide) rfl (Nat.le_of_ble_eq_true rfl) rfl ?_
  rintro X rfl rfl C ht hcl hsl E
  have hN := hGN _ C.pe.2.2
  refine V_aload_n C dL_addPane_0 rfl ?_
  refine V_iconst C dL_addPane_1 ?_
  refine V_aload_n C dL_addPane_2 rfl ?_
  refine V_iload_n C dL_addPane_3 rfl ?_
  refine V_iload_n C dL_addPane_4 rfl ?_
  refine V_callVC (nA := 2) C dL_addPane_5 hM gL_addPane_X8_addPane rfl hA rfl (by decide +kernel) rfl (by omega) (by decide) (Nat.le_of_ble_eq_true rfl) ⟨by omega, by omega⟩ rfl (name := xE2) [] ⟨0, 10, 13, 13⟩ [⟨0, 10, 17, 18⟩] ht ?_ (by decide) (by decide) (C.ts _ (by decide +kernel)) (cast_self hN.2.1.1) (fun q9 n9 => ?_)
  · exact fun _ h9 => absurd h9 List.not_mem_nil
  · refine V_astore C dL_addPane_13 rfl (by decide) ?_
    refine V_iconst C dL_addPane_15 ?_
    exact V_ireturn C E dL_addPane_16 (by omega) (by omega) ⟨rfl, rfl, rfl, rfl⟩
theorem L_addPane_x3 (hG : GP G) (hGN : GN G) (hA : hasS S a (.inr (.inr (6, ks)))) {x1 x2 : Int} (hM : CtX G l yX8_addPane wsX8_addPane 7 [.ref a, .int (I32 x1), .int (I32 x2)] S n mu la xE3) : Ct G l yL_addPane wsL_addPane 9 1 6 [.ref a, .int (I32 x1), .int (I32 x2), .ref o] S n mu la (Lp S 2 mu la) := by
  refine Ct.ofH (cc := cL_addPane) (nL := 5) (ret := some .int) (hh := [(0, 10, 13, 13), (0, 10, 17, 18)]) [some (.ref a), some (.int (I32 x1)), some (.int (I32 x2)), some (.ref o), none] hG (by decide) rfl (Nat.le_of_ble_eq_true rfl) rfl ?_
  rintro X rfl rfl C ht hcl hsl E
  have hN := hGN _ C.pe.2.2
  refine V_aload_n C dL_addPane_0 rfl ?_
  refine V_iconst C dL_addPane_1 ?_
  refine V_aload_n C dL_addPane_2 rfl ?_
  refine V_iload_n C dL_addPane_3 rfl ?_
  refine V_iload_n C dL_addPane_4 rfl ?_
  refine V_callVC (nA := 2) C dL_addPane_5 hM gL_addPane_X8_addPane rfl hA rfl (by decide +kernel) rfl (by omega) (by decide) (Nat.le_of_ble_eq_true rfl) ⟨by omega, by omega⟩ rfl (name := xE3) [⟨0, 10, 13, 13⟩] ⟨0, 10, 17, 18⟩ [] ht ?_ (by decide) (by decide) (C.ts _ (by decide +kernel)) (cast_self hN.2.2.1) (fun q9 n9 => ?_)
  · exact List.forall_mem_cons.mpr ⟨Or.inr ⟨by decide, xE2, C.ts _ (by decide +kernel), hN.2.2.2⟩, fun _ h9 => absurd h9 List.not_mem_nil⟩
  · refine V_astore C dL_addPane_17 rfl (by decide) ?_
    refine V_iconst C dL_addPane_19 ?_
    exact V_ireturn C E dL_addPane_20 (by omega) (by omega) ⟨rfl, rfl, rfl, rfl⟩
theorem L_addPane (hG : GP G) (hGN : GN G) (hO : hasS S o (.inl (1, 1))) (hA : hasS S a (.inr (.inr (6, ks)))) (hfc : fc ≤ 8) {x1 x2 : Int} {f c : Int} (hc : (f = 0 ∧ c = 0) ∨ (f = 2 ∧ c = 1) ∨ (f = 3 ∧ c = 2)) (h0 : f = 0 → Ct G l yX8_addPane wsX8_addPane fc 0 0 [.ref a, .int (I32 x1), .int (I32 x2)] S n mu la (Dt (some (.int (I32 v))) S n mu' la)) (h1 : f ≠ 0 → CtX G l yX8_addPane wsX8_addPane 7 [.ref a, .int (I32 x1), .int (I32 x2)] S n mu la (exn f)) :
    Ct G l yL_addPane wsL_addPane 9 1 6 [.ref a, .int (I32 x1), .int (I32 x2), .ref o] S n mu la (Lp S c (if f = 0 then mu' else mu) (if f = 0 then upl la o 0 (I32 v).toInt64 else la)) := by
  rcases hc with ⟨rfl, rfl⟩ | ⟨rfl, rfl⟩ | ⟨rfl, rfl⟩
  · exact L_addPane_k hG hO hA hfc (h0 rfl)
  · exact L_addPane_x2 hG hGN hA (h1 (by decide))
  · exact L_addPane_x3 hG hGN hA (h1 (by decide))
set_option maxRecDepth 20000 in
theorem ggL_setLeast_X8_setLeast : GoodIn wsL_setLeast wsX8_setLeast := goodIn_ca (goodIn_ca (goodIn_ca (goodIn_r _ [7, 8, 9, 10, 11, 12, 6, 13, 14, 15, 16, 17, 18, 19, 20, 21, 22, 23, 24, 25, 26, 27, 28, 29, 30, 31, 32, 33, 34, 35, 36, 37, 38, 39, 40, 41, 42, 43, 44, 45, 46, 47, 48, 49, 50, 51, 52, 53, 54, 55, 56, 57, 58, 59, 60, 61, 62, 63, 64, 65, 66, 67, 68, 69, 70, 71, 72, 73, 74, 75, 76, 77, 78, 79, 80, 81, 82, 83, 84, 85, 86, 87, 88, 89, 90, 91, 92, 93, 94, 95, 96, 97, 98, 99, 100, 101, 102, 103, 104, 105, 106, 107, 108, 109, 110, 111, 112, 113, 114, 115, 116, 117, 118, 119, 120, 121, 122, 123, 124, 125, 126, 127, 128, 129, 130, 131, 132, 133, 134, 135, 136, 137, 138, 139, 140, 141, 142, 143, 144, 145, 146, 147, 148, 149, 150, 151, 152, 153, 154, 155, 156, 157, 158, 159, 160, 161, 162, 163, 164, 165, 166, 167, 168, 169, 170, 171, 172, 173, 174, 175, 176, 177, 178, 179, 180, 181, 182, 183, 184, 185, 186, 187, 188, 189, 190, 191, 192, 193, 194, 195, 196, 197, 198, 199, 200, 201, 202, 203, 204, 205, 206, 207, 208, 209, 210, 211, 212, 213, 214, 215, 216, 217, 218, 219, 220, 221, 222, 223, 224, 225, 226, 227, 228, 229, 230, 231, 232, 233, 234, 235, 236, 237, 238, 239, 240, 241, 242, 243, 244, 245, 246, 247, 248, 249, 250, 251, 252, 253, 254, 255, 256, 257, 258, 259, 260, 261, 262, 263, 264, 265, 266, 267, 268, 269, 270, 271, 272, 273, 274, 275, 276, 277, 278, 279, 280, 281, 282, 283, 284, 285, 286] (by decide +kernel) (by decide +kernel)) (goodIn_sub (fun _ h => List.mem_cons_of_mem _ (List.mem_append_left _ (List.mem_append_left _ (List.mem_append_right _ h)))) (by decide +kernel))) (goodIn_sub (fun _ h => List.mem_cons_of_mem _ (List.mem_append_left _ (List.mem_append_right _ h))) (by decide +kernel))) (goodIn_sub (fun _ h => List.mem_cons_of_mem _ (List.mem_append_right _ h)) (by decide +kernel))
set_option maxRecDepth 20000 in
theorem gL_setLeast_X8_setLeast : GoodIn wsL_setLeast (wsV RL 20 RX8 yX8_setLeast wsX8_setLeast) := goodIn_app (goodIn_of _ (by decide +kernel)) ggL_setLeast_X8_setLeast
theorem dL_setLeast_0 : decode cL_setLeast 0 = .ok (.aload 4, 2) := by decide +kernel
theorem dL_setLeast_2 : decode cL_setLeast 2 = .ok (.iconst 0, 1) := by decide +kernel
theorem dL_setLeast_3 : decode cL_setLeast 3 = .ok (.aload_n 0, 1) := by decide +kernel
theorem dL_setLeast_4 : decode cL_setLeast 4 = .ok (.iload_n 1, 1) := by decide +kernel
theorem dL_setLeast_5 : decode cL_setLeast 5 = .ok (.iload_n 2, 1) := by decide +kernel
theorem dL_setLeast_6 : decode cL_setLeast 6 = .ok (.iload_n 3, 1) := by decide +kernel
theorem dL_setLeast_7 : decode cL_setLeast 7 = .ok (.invokevirtual 20, 3) := by decide +kernel
theorem dL_setLeast_10 : decode cL_setLeast 10 = .ok (.i2l, 1) := by decide +kernel
theorem dL_setLeast_11 : decode cL_setLeast 11 = .ok (.lastore, 1) := by decide +kernel
theorem dL_setLeast_12 : decode cL_setLeast 12 = .ok (.goto 11, 3) := by decide +kernel
theorem dL_setLeast_15 : decode cL_setLeast 15 = .ok (.astore 5, 2) := by decide +kernel
theorem dL_setLeast_17 : decode cL_setLeast 17 = .ok (.iconst 1, 1) := by decide +kernel
theorem dL_setLeast_18 : decode cL_setLeast 18 = .ok (.ireturn, 1) := by decide +kernel
theorem dL_setLeast_19 : decode cL_setLeast 19 = .ok (.astore 5, 2) := by decide +kernel
theorem dL_setLeast_21 : decode cL_setLeast 21 = .ok (.iconst 2, 1) := by decide +kernel
theorem dL_setLeast_22 : decode cL_setLeast 22 = .ok (.ireturn, 1) := by decide +kernel
theorem dL_setLeast_23 : decode cL_setLeast 23 = .ok (.iconst 0, 1) := by decide +kernel
theorem dL_setLeast_24 : decode cL_setLeast 24 = .ok (.ireturn, 1) := by decide +kernel
theorem L_setLeast_k (hG : GP G) (hO : hasS S o (.inl (1, 1))) (hA : hasS S a (.inr (.inr (6, ks)))) (hfc : fc ≤ 8) {x1 x2 x3 : Int} (hM : Ct G l yX8_setLeast wsX8_setLeast fc 0 0 [.ref a, .int (I32 x1), .int (I32 x2), .int (I32 x3)] S n mu la (Dt (some (.int (I32 v))) S n mu' la)) : Ct G l yL_setLeast wsL_setLeast 9 1 6 [.ref a, .int (I32 x1), .int (I32 x2), .int (I32 x3), .ref o] S n mu la (Lp S 0 mu' (upl la o 0 (I32 v).toInt64)) := by
  refine Ct.ofH (cc := cL_setLeast) (nL := 6) (ret := some .int) (hh := [(0, 12, 15, 24), (0, 12, 19, 13)]) [some (.ref a), some (.int (I32 x1)), some (.int (I32 x2)), some (.int (I32 x3)), some (.ref o), none] hG (by decide) rfl (Nat.le_of_ble_eq_true rfl) rfl ?_
  rintro X rfl rfl C ht hcl hsl E
  refine V_aload C dL_setLeast_0 rfl ?_
  refine V_iconst C dL_setLeast_2 ?_
  refine V_aload_n C dL_setLeast_3 rfl ?_
  refine V_iload_n C dL_setLeast_4 rfl ?_
  refine V_iload_n C dL_setLeast_5 rfl ?_
  refine V_iload_n C dL_setLeast_6 rfl ?_
  refine V_callVD (nA := 3) C dL_setLeast_7 hM gL_setLeast_X8_setLeast rfl hA rfl (by decide +kernel) rfl (by omega) (by decide) (Nat.le_of_ble_eq_true rfl) ⟨by omega, by omega⟩ rfl ?_
  refine V_i2l C dL_setLeast_10 ?_
  refine V_last C dL_setLeast_11 hO (by decide) (by decide) ?_
  refine V_goto C 23 dL_setLeast_12 (by decide) ?_
  refine V_iconst C dL_setLeast_23 ?_
  exact V_ireturn C E dL_setLeast_24 (by omega) (by omega) ⟨rfl, rfl, rfl, rfl⟩
theorem L_setLeast_x1 (hG : GP G) (hGN : GN G) (hA : hasS S a (.inr (.inr (6, ks)))) {x1 x2 x3 : Int} (hM : CtX G l yX8_setLeast wsX8_setLeast 7 [.ref a, .int (I32 x1), .int (I32 x2), .int (I32 x3)] S n mu la xE1) : Ct G l yL_setLeast wsL_setLeast 9 1 6 [.ref a, .int (I32 x1), .int (I32 x2), .int (I32 x3), .ref o] S n mu la (Lp S 1 mu la) := by
  refine Ct.ofH (cc := cL_setLeast) (nL := 6) (ret := some .int) (hh := [(0, 12, 15, 24), (0, 12, 19, 13)]) [some (.ref a), some (.int (I32 x1)), some (.int (I32 x2)), some (.int (I32 x3)), some (.ref o), none] hG (by decide) rfl (Nat.le_of_ble_eq_true rfl) rfl ?_
  rintro X rfl rfl C ht hcl hsl E
  have hN := hGN _ C.pe.2.2
  refine V_aload C dL_setLeast_0 rfl ?_
  refine V_iconst C dL_setLeast_2 ?_
  refine V_aload_n C dL_setLeast_3 rfl ?_
  refine V_iload_n C dL_setLeast_4 rfl ?_
  refine V_iload_n C dL_setLeast_5 rfl ?_
  refine V_iload_n C dL_setLeast_6 rfl ?_
  refine V_callVC (nA := 3) C dL_setLeast_7 hM gL_setLeast_X8_setLeast rfl hA rfl (by decide +kernel) rfl (by omega) (by decide) (Nat.le_of_ble_eq_true rfl) ⟨by omega, by omega⟩ rfl (name := xE1) [] ⟨0, 12, 15, 24⟩ [⟨0, 12, 19, 13⟩] ht ?_ (by decide) (by decide) (C.ts _ (by decide +kernel)) (cast_self hN.1.1) (fun q9 n9 => ?_)
  · exact fun _ h9 => absurd h9 List.not_mem_nil
  · refine V_astore C dL_setLeast_15 rfl (by decide) ?_
    refine V_iconst C dL_setLeast_17 ?_
    exact V_ireturn C E dL_setLeast_18 (by omega) (by omega) ⟨rfl, rfl, rfl, rfl⟩
theorem L_setLeast_x2 (hG : GP G) (hGN : GN G) (hA : hasS S a (.inr (.inr (6, ks)))) {x1 x2 x3 : Int} (hM : CtX G l yX8_setLeast wsX8_setLeast 7 [.ref a, .int (I32 x1), .int (I32 x2), .int (I32 x3)] S n mu la xE2) : Ct G l yL_setLeast wsL_setLeast 9 1 6 [.ref a, .int (I32 x1), .int (I32 x2), .int (I32 x3), .ref o] S n mu la (Lp S 2 mu la) := by
  refine Ct.ofH (cc := cL_setLeast) (nL := 6) (ret := some .int) (hh := [(0, 12, 15, 24), (0, 12, 19, 13)]) [some (.ref a), some (.int (I32 x1)), some (.int (I32 x2)), some (.int (I32 x3)), some (.ref o), none] hG (by decide) rfl (Nat.le_of_ble_eq_true rfl) rfl ?_
  rintro X rfl rfl C ht hcl hsl E
  have hN := hGN _ C.pe.2.2
  refine V_aload C dL_setLeast_0 rfl ?_
  refine V_iconst C dL_setLeast_2 ?_
  refine V_aload_n C dL_setLeast_3 rfl ?_
  refine V_iload_n C dL_setLeast_4 rfl ?_
  refine V_iload_n C dL_setLeast_5 rfl ?_
  refine V_iload_n C dL_setLeast_6 rfl ?_
  refine V_callVC (nA := 3) C dL_setLeast_7 hM gL_setLeast_X8_setLeast rfl hA rfl (by decide +kernel) rfl (by omega) (by decide) (Nat.le_of_ble_eq_true rfl) ⟨by omega, by omega⟩ rfl (name := xE2) [⟨0, 12, 15, 24⟩] ⟨0, 12, 19, 13⟩ [] ht ?_ (by decide) (by decide) (C.ts _ (by decide +kernel)) (cast_self hN.2.1.1) (fun q9 n9 => ?_)
  · exact List.forall_mem_cons.mpr ⟨Or.inr ⟨by decide, xE1, C.ts _ (by decide +kernel), hN.2.1.1⟩, fun _ h9 => absurd h9 List.not_mem_nil⟩
  · refine V_astore C dL_setLeast_19 rfl (by decide) ?_
    refine V_iconst C dL_setLeast_21 ?_
    exact V_ireturn C E dL_setLeast_22 (by omega) (by omega) ⟨rfl, rfl, rfl, rfl⟩
theorem L_setLeast (hG : GP G) (hGN : GN G) (hO : hasS S o (.inl (1, 1))) (hA : hasS S a (.inr (.inr (6, ks)))) (hfc : fc ≤ 8) {x1 x2 x3 : Int} {f c : Int} (hc : (f = 0 ∧ c = 0) ∨ (f = 1 ∧ c = 1) ∨ (f = 2 ∧ c = 2)) (h0 : f = 0 → Ct G l yX8_setLeast wsX8_setLeast fc 0 0 [.ref a, .int (I32 x1), .int (I32 x2), .int (I32 x3)] S n mu la (Dt (some (.int (I32 v))) S n mu' la)) (h1 : f ≠ 0 → CtX G l yX8_setLeast wsX8_setLeast 7 [.ref a, .int (I32 x1), .int (I32 x2), .int (I32 x3)] S n mu la (exn f)) :
    Ct G l yL_setLeast wsL_setLeast 9 1 6 [.ref a, .int (I32 x1), .int (I32 x2), .int (I32 x3), .ref o] S n mu la (Lp S c (if f = 0 then mu' else mu) (if f = 0 then upl la o 0 (I32 v).toInt64 else la)) := by
  rcases hc with ⟨rfl, rfl⟩ | ⟨rfl, rfl⟩ | ⟨rfl, rfl⟩
  · exact L_setLeast_k hG hO hA hfc (h0 rfl)
  · exact L_setLeast_x1 hG hGN hA (h1 (by decide))
  · exact L_setLeast_x2 hG hGN hA (h1 (by decide))
set_option maxRecDepth 20000 in
theorem ggL_dock_X8_dock : GoodIn wsL_dock wsX8_dock := goodIn_ca (goodIn_ca (goodIn_ca (goodIn_r _ [8, 9, 10, 11, 12, 13, 7, 14, 15, 16, 17, 18, 19, 20, 21, 22, 23, 24, 25, 26, 27, 28, 29, 30, 31, 32, 33, 34, 35, 36, 37, 38, 39, 40, 41, 42, 43, 44, 45, 46, 47, 48, 49, 50, 51, 52, 53, 54, 55, 56, 57, 58, 59, 60, 61, 62, 63, 64, 65, 66, 67, 68, 69, 70, 71, 72, 73, 74, 75, 76, 77, 78, 79, 80, 81, 82, 83, 84, 85, 86, 87, 88, 89, 90, 91, 92, 93, 94, 95, 96, 97, 98, 99, 100, 101, 102, 103, 104, 105, 106, 107, 108, 109, 110, 111, 112, 113, 114, 115, 116, 117, 118, 119, 120, 121, 122, 123, 124, 125, 126, 127, 128, 129, 130, 131, 132, 133, 134, 135, 136, 137, 138, 139, 140, 141, 142, 143, 144, 145, 146, 147, 148, 149, 150, 151, 152, 153, 154, 155, 156, 157, 158, 159, 160, 161, 162, 163, 164, 165, 166, 167, 168, 169, 170, 171, 172, 173, 174, 175, 176, 177, 178, 179, 180, 181, 182, 183, 184, 185, 186, 187, 188, 189, 190, 191, 192, 193, 194, 195, 196, 197, 198, 199, 200, 201, 202, 203, 204, 205, 206, 207, 208, 209, 210, 211, 212, 213, 214, 215, 216, 217, 218, 219, 220, 221, 222, 223, 224, 225, 226, 227, 228, 229, 230, 231, 232, 233, 234, 235, 236, 237, 238, 239, 240, 241, 242, 243, 244, 245, 246, 247, 248, 249, 250, 251, 252, 253, 254, 255, 256, 257, 258, 259, 260, 261, 262, 263, 264, 265, 266, 267, 268, 269, 270, 271, 272, 273, 274, 275, 276, 277, 278, 279, 280, 281, 282, 283, 284, 285, 286, 287, 288, 289, 290, 291, 292, 293, 294, 295, 296, 297, 298, 299, 300, 301, 302, 303, 304, 305, 306, 307, 308, 309, 310, 311, 312, 313, 314, 315, 316, 317, 318, 319, 320, 321, 322, 323, 324, 325, 326, 327, 328, 329, 330, 331, 332, 333, 334, 335, 336, 337, 338, 339, 340, 341, 342, 343] (by decide +kernel) (by decide +kernel)) (goodIn_sub (fun _ h => List.mem_cons_of_mem _ (List.mem_append_left _ (List.mem_append_left _ (List.mem_append_right _ h)))) (by decide +kernel))) (goodIn_sub (fun _ h => List.mem_cons_of_mem _ (List.mem_append_left _ (List.mem_append_right _ h))) (by decide +kernel))) (goodIn_sub (fun _ h => List.mem_cons_of_mem _ (List.mem_append_right _ h)) (by decide +kernel))
set_option maxRecDepth 20000 in
theorem gL_dock_X8_dock : GoodIn wsL_dock (wsV RL 26 RX8 yX8_dock wsX8_dock) := goodIn_app (goodIn_of _ (by decide +kernel)) ggL_dock_X8_dock
theorem dL_dock_0 : decode cL_dock 0 = .ok (.aload 4, 2) := by decide +kernel
theorem dL_dock_2 : decode cL_dock 2 = .ok (.iconst 0, 1) := by decide +kernel
theorem dL_dock_3 : decode cL_dock 3 = .ok (.aload_n 0, 1) := by decide +kernel
theorem dL_dock_4 : decode cL_dock 4 = .ok (.iload_n 1, 1) := by decide +kernel
theorem dL_dock_5 : decode cL_dock 5 = .ok (.iload_n 2, 1) := by decide +kernel
theorem dL_dock_6 : decode cL_dock 6 = .ok (.iload_n 3, 1) := by decide +kernel
theorem dL_dock_7 : decode cL_dock 7 = .ok (.invokevirtual 26, 3) := by decide +kernel
theorem dL_dock_10 : decode cL_dock 10 = .ok (.i2l, 1) := by decide +kernel
theorem dL_dock_11 : decode cL_dock 11 = .ok (.lastore, 1) := by decide +kernel
theorem dL_dock_12 : decode cL_dock 12 = .ok (.goto 15, 3) := by decide +kernel
theorem dL_dock_15 : decode cL_dock 15 = .ok (.astore 5, 2) := by decide +kernel
theorem dL_dock_17 : decode cL_dock 17 = .ok (.iconst 1, 1) := by decide +kernel
theorem dL_dock_18 : decode cL_dock 18 = .ok (.ireturn, 1) := by decide +kernel
theorem dL_dock_19 : decode cL_dock 19 = .ok (.astore 5, 2) := by decide +kernel
theorem dL_dock_21 : decode cL_dock 21 = .ok (.iconst 2, 1) := by decide +kernel
theorem dL_dock_22 : decode cL_dock 22 = .ok (.ireturn, 1) := by decide +kernel
theorem dL_dock_23 : decode cL_dock 23 = .ok (.astore 5, 2) := by decide +kernel
theorem dL_dock_25 : decode cL_dock 25 = .ok (.iconst 3, 1) := by decide +kernel
theorem dL_dock_26 : decode cL_dock 26 = .ok (.ireturn, 1) := by decide +kernel
theorem dL_dock_27 : decode cL_dock 27 = .ok (.iconst 0, 1) := by decide +kernel
theorem dL_dock_28 : decode cL_dock 28 = .ok (.ireturn, 1) := by decide +kernel
theorem L_dock_k (hG : GP G) (hO : hasS S o (.inl (1, 1))) (hA : hasS S a (.inr (.inr (6, ks)))) (hfc : fc ≤ 8) {x1 x2 x3 : Int} (hM : Ct G l yX8_dock wsX8_dock fc 0 0 [.ref a, .int (I32 x1), .int (I32 x2), .int (I32 x3)] S n mu la (Dt (some (.int (I32 v))) S n mu' la)) : Ct G l yL_dock wsL_dock 9 1 6 [.ref a, .int (I32 x1), .int (I32 x2), .int (I32 x3), .ref o] S n mu la (Lp S 0 mu' (upl la o 0 (I32 v).toInt64)) := by
  refine Ct.ofH (cc := cL_dock) (nL := 6) (ret := some .int) (hh := [(0, 12, 15, 24), (0, 12, 19, 13), (0, 12, 23, 18)]) [some (.ref a), some (.int (I32 x1)), some (.int (I32 x2)), some (.int (I32 x3)), some (.ref o), none] hG (by decide) rfl (Nat.le_of_ble_eq_true rfl) rfl ?_
  rintro X rfl rfl C ht hcl hsl E
  refine V_aload C dL_dock_0 rfl ?_
  refine V_iconst C dL_dock_2 ?_
  refine V_aload_n C dL_dock_3 rfl ?_
  refine V_iload_n C dL_dock_4 rfl ?_
  refine V_iload_n C dL_dock_5 rfl ?_
  refine V_iload_n C dL_dock_6 rfl ?_
  refine V_callVD (nA := 3) C dL_dock_7 hM gL_dock_X8_dock rfl hA rfl (by decide +kernel) rfl (by omega) (by decide) (Nat.le_of_ble_eq_true rfl) ⟨by omega, by omega⟩ rfl ?_
  refine V_i2l C dL_dock_10 ?_
  refine V_last C dL_dock_11 hO (by decide) (by decide) ?_
  refine V_goto C 27 dL_dock_12 (by decide) ?_
  refine V_iconst C dL_dock_27 ?_
  exact V_ireturn C E dL_dock_28 (by omega) (by omega) ⟨rfl, rfl, rfl, rfl⟩
theorem L_dock_x1 (hG : GP G) (hGN : GN G) (hA : hasS S a (.inr (.inr (6, ks)))) {x1 x2 x3 : Int} (hM : CtX G l yX8_dock wsX8_dock 7 [.ref a, .int (I32 x1), .int (I32 x2), .int (I32 x3)] S n mu la xE1) : Ct G l yL_dock wsL_dock 9 1 6 [.ref a, .int (I32 x1), .int (I32 x2), .int (I32 x3), .ref o] S n mu la (Lp S 1 mu la) := by
  refine Ct.ofH (cc := cL_dock) (nL := 6) (ret := some .int) (hh := [(0, 12, 15, 24), (0, 12, 19, 13), (0, 12, 23, 18)]) [some (.ref a), some (.int (I32 x1)), some (.int (I32 x2)), some (.int (I32 x3)), some (.ref o), none] hG (by decide) rfl (Nat.le_of_ble_eq_true rfl) rfl ?_
  rintro X rfl rfl C ht hcl hsl E
  have hN := hGN _ C.pe.2.2
  refine V_aload C dL_dock_0 rfl ?_
  refine V_iconst C dL_dock_2 ?_
  refine V_aload_n C dL_dock_3 rfl ?_
  refine V_iload_n C dL_dock_4 rfl ?_
  refine V_iload_n C dL_dock_5 rfl ?_
  refine V_iload_n C dL_dock_6 rfl ?_
  refine V_callVC (nA := 3) C dL_dock_7 hM gL_dock_X8_dock rfl hA rfl (by decide +kernel) rfl (by omega) (by decide) (Nat.le_of_ble_eq_true rfl) ⟨by omega, by omega⟩ rfl (name := xE1) [] ⟨0, 12, 15, 24⟩ [⟨0, 12, 19, 13⟩, ⟨0, 12, 23, 18⟩] ht ?_ (by decide) (by decide) (C.ts _ (by decide +kernel)) (cast_self hN.1.1) (fun q9 n9 => ?_)
  · exact fun _ h9 => absurd h9 List.not_mem_nil
  · refine V_astore C dL_dock_15 rfl (by decide) ?_
    refine V_iconst C dL_dock_17 ?_
    exact V_ireturn C E dL_dock_18 (by omega) (by omega) ⟨rfl, rfl, rfl, rfl⟩
theorem L_dock_x2 (hG : GP G) (hGN : GN G) (hA : hasS S a (.inr (.inr (6, ks)))) {x1 x2 x3 : Int} (hM : CtX G l yX8_dock wsX8_dock 7 [.ref a, .int (I32 x1), .int (I32 x2), .int (I32 x3)] S n mu la xE2) : Ct G l yL_dock wsL_dock 9 1 6 [.ref a, .int (I32 x1), .int (I32 x2), .int (I32 x3), .ref o] S n mu la (Lp S 2 mu la) := by
  refine Ct.ofH (cc := cL_dock) (nL := 6) (ret := some .int) (hh := [(0, 12, 15, 24), (0, 12, 19, 13), (0, 12, 23, 18)]) [some (.ref a), some (.int (I32 x1)), some (.int (I32 x2)), some (.int (I32 x3)), some (.ref o), none] hG (by decide) rfl (Nat.le_of_ble_eq_true rfl) rfl ?_
  rintro X rfl rfl C ht hcl hsl E
  have hN := hGN _ C.pe.2.2
  refine V_aload C dL_dock_0 rfl ?_
  refine V_iconst C dL_dock_2 ?_
  refine V_aload_n C dL_dock_3 rfl ?_
  refine V_iload_n C dL_dock_4 rfl ?_
  refine V_iload_n C dL_dock_5 rfl ?_
  refine V_iload_n C dL_dock_6 rfl ?_
  refine V_callVC (nA := 3) C dL_dock_7 hM gL_dock_X8_dock rfl hA rfl (by decide +kernel) rfl (by omega) (by decide) (Nat.le_of_ble_eq_true rfl) ⟨by omega, by omega⟩ rfl (name := xE2) [⟨0, 12, 15, 24⟩] ⟨0, 12, 19, 13⟩ [⟨0, 12, 23, 18⟩] ht ?_ (by decide) (by decide) (C.ts _ (by decide +kernel)) (cast_self hN.2.1.1) (fun q9 n9 => ?_)
  · exact List.forall_mem_cons.mpr ⟨Or.inr ⟨by decide, xE1, C.ts _ (by decide +kernel), hN.2.1.1⟩, fun _ h9 => absurd h9 List.not_mem_nil⟩
  · refine V_astore C dL_dock_19 rfl (by decide) ?_
    refine V_iconst C dL_dock_21 ?_
    exact V_ireturn C E dL_dock_22 (by omega) (by omega) ⟨rfl, rfl, rfl, rfl⟩
theorem L_dock_x3 (hG : GP G) (hGN : GN G) (hA : hasS S a (.inr (.inr (6, ks)))) {x1 x2 x3 : Int} (hM : CtX G l yX8_dock wsX8_dock 7 [.ref a, .int (I32 x1), .int (I32 x2), .int (I32 x3)] S n mu la xE3) : Ct G l yL_dock wsL_dock 9 1 6 [.ref a, .int (I32 x1), .int (I32 x2), .int (I32 x3), .ref o] S n mu la (Lp S 3 mu la) := by
  refine Ct.ofH (cc := cL_dock) (nL := 6) (ret := some .int) (hh := [(0, 12, 15, 24), (0, 12, 19, 13), (0, 12, 23, 18)]) [some (.ref a), some (.int (I32 x1)), some (.int (I32 x2)), some (.int (I32 x3)), some (.ref o), none] hG (by decide) rfl (Nat.le_of_ble_eq_true rfl) rfl ?_
  rintro X rfl rfl C ht hcl hsl E
  have hN := hGN _ C.pe.2.2
  refine V_aload C dL_dock_0 rfl ?_
  refine V_iconst C dL_dock_2 ?_
  refine V_aload_n C dL_dock_3 rfl ?_
  refine V_iload_n C dL_dock_4 rfl ?_
  refine V_iload_n C dL_dock_5 rfl ?_
  refine V_iload_n C dL_dock_6 rfl ?_
  refine V_callVC (nA := 3) C dL_dock_7 hM gL_dock_X8_dock rfl hA rfl (by decide +kernel) rfl (by omega) (by decide) (Nat.le_of_ble_eq_true rfl) ⟨by omega, by omega⟩ rfl (name := xE3) [⟨0, 12, 15, 24⟩, ⟨0, 12, 19, 13⟩] ⟨0, 12, 23, 18⟩ [] ht ?_ (by decide) (by decide) (C.ts _ (by decide +kernel)) (cast_self hN.2.2.1) (fun q9 n9 => ?_)
  · exact List.forall_mem_cons.mpr ⟨Or.inr ⟨by decide, xE1, C.ts _ (by decide +kernel), hN.2.2.1⟩, List.forall_mem_cons.mpr ⟨Or.inr ⟨by decide, xE2, C.ts _ (by decide +kernel), hN.2.2.2⟩, fun _ h9 => absurd h9 List.not_mem_nil⟩⟩
  · refine V_astore C dL_dock_23 rfl (by decide) ?_
    refine V_iconst C dL_dock_25 ?_
    exact V_ireturn C E dL_dock_26 (by omega) (by omega) ⟨rfl, rfl, rfl, rfl⟩
theorem L_dock (hG : GP G) (hGN : GN G) (hO : hasS S o (.inl (1, 1))) (hA : hasS S a (.inr (.inr (6, ks)))) (hfc : fc ≤ 8) {x1 x2 x3 : Int} {f c : Int} (hc : (f = 0 ∧ c = 0) ∨ (f = 1 ∧ c = 1) ∨ (f = 2 ∧ c = 2) ∨ (f = 3 ∧ c = 3)) (h0 : f = 0 → Ct G l yX8_dock wsX8_dock fc 0 0 [.ref a, .int (I32 x1), .int (I32 x2), .int (I32 x3)] S n mu la (Dt (some (.int (I32 v))) S n mu' la)) (h1 : f ≠ 0 → CtX G l yX8_dock wsX8_dock 7 [.ref a, .int (I32 x1), .int (I32 x2), .int (I32 x3)] S n mu la (exn f)) :
    Ct G l yL_dock wsL_dock 9 1 6 [.ref a, .int (I32 x1), .int (I32 x2), .int (I32 x3), .ref o] S n mu la (Lp S c (if f = 0 then mu' else mu) (if f = 0 then upl la o 0 (I32 v).toInt64 else la)) := by
  rcases hc with ⟨rfl, rfl⟩ | ⟨rfl, rfl⟩ | ⟨rfl, rfl⟩ | ⟨rfl, rfl⟩
  · exact L_dock_k hG hO hA hfc (h0 rfl)
  · exact L_dock_x1 hG hGN hA (h1 (by decide))
  · exact L_dock_x2 hG hGN hA (h1 (by decide))
  · exact L_dock_x3 hG hGN hA (h1 (by decide))
set_option maxRecDepth 20000 in
theorem ggL_dockAtEdge_X8_dockAtEdge : GoodIn wsL_dockAtEdge wsX8_dockAtEdge := goodIn_ca (goodIn_ca (goodIn_ca (goodIn_r _ [7, 8, 9, 10, 11, 12, 13, 6, 14, 15, 16, 17, 18, 19, 20, 21, 22, 23, 24, 25, 26, 27, 28, 29, 30, 31, 32, 33, 34, 35, 36, 37, 38, 39, 40, 41, 42, 43, 44, 45, 46, 47, 48, 49, 50, 51, 52, 53, 54, 55, 56, 57, 58, 59, 60, 61, 62, 63, 64, 65, 66, 67, 68, 69, 70, 71, 72, 73, 74, 75, 76, 77, 78, 79, 80, 81, 82, 83, 84, 85, 86, 87, 88, 89, 90, 91, 92, 93, 94, 95, 96, 97, 98, 99, 100, 101, 102, 103, 104, 105, 106, 107, 108, 109, 110, 111, 112, 113, 114, 115, 116, 117, 118, 119, 120, 121, 122, 123, 124, 125, 126, 127, 128, 129, 130, 131, 132, 133, 134, 135, 136, 137, 138, 139, 140, 141, 142, 143, 144, 145, 146, 147, 148, 149, 150, 151, 152, 153, 154, 155, 156, 157, 158, 159, 160, 161, 162, 163, 164, 165, 166, 167, 168, 169, 170, 171, 172, 173, 174, 175, 176, 177, 178, 179, 180, 181, 182, 183, 184, 185, 186, 187, 188, 189, 190, 191, 192, 193, 194, 195, 196, 197, 198, 199, 200, 201, 202, 203, 204, 205, 206, 207, 208, 209, 210, 211, 212, 213, 214, 215, 216, 217, 218, 219, 220, 221, 222, 223, 224, 225, 226, 227, 228, 229, 230, 231, 232, 233, 234, 235, 236, 237, 238, 239, 240, 241, 242, 243, 244, 245, 246, 247, 248, 249, 250, 251, 252, 253, 254, 255, 256, 257, 258, 259, 260, 261, 262, 263, 264, 265, 266, 267, 268, 269, 270, 271, 272, 273, 274, 275, 276, 277, 278, 279, 280, 281, 282, 283, 284, 285, 286, 287, 288, 289, 290, 291, 292, 293, 294, 295, 296, 297, 298, 299, 300, 301, 302, 303, 304, 305, 306, 307, 308, 309, 310, 311, 312, 313, 314, 315, 316, 317, 318, 319, 320, 321, 322, 323, 324, 325, 326, 327, 328, 329, 330, 331, 332, 333, 334, 335, 336, 337, 338, 339, 340, 341, 342, 343] (by decide +kernel) (by decide +kernel)) (goodIn_sub (fun _ h => List.mem_cons_of_mem _ (List.mem_append_left _ (List.mem_append_left _ (List.mem_append_right _ h)))) (by decide +kernel))) (goodIn_sub (fun _ h => List.mem_cons_of_mem _ (List.mem_append_left _ (List.mem_append_right _ h))) (by decide +kernel))) (goodIn_sub (fun _ h => List.mem_cons_of_mem _ (List.mem_append_right _ h)) (by decide +kernel))
set_option maxRecDepth 20000 in
theorem gL_dockAtEdge_X8_dockAtEdge : GoodIn wsL_dockAtEdge (wsV RL 29 RX8 yX8_dockAtEdge wsX8_dockAtEdge) := goodIn_app (goodIn_of _ (by decide +kernel)) ggL_dockAtEdge_X8_dockAtEdge
theorem dL_dockAtEdge_0 : decode cL_dockAtEdge 0 = .ok (.aload_n 3, 1) := by decide +kernel
theorem dL_dockAtEdge_1 : decode cL_dockAtEdge 1 = .ok (.iconst 0, 1) := by decide +kernel
theorem dL_dockAtEdge_2 : decode cL_dockAtEdge 2 = .ok (.aload_n 0, 1) := by decide +kernel
theorem dL_dockAtEdge_3 : decode cL_dockAtEdge 3 = .ok (.iload_n 1, 1) := by decide +kernel
theorem dL_dockAtEdge_4 : decode cL_dockAtEdge 4 = .ok (.iload_n 2, 1) := by decide +kernel
theorem dL_dockAtEdge_5 : decode cL_dockAtEdge 5 = .ok (.invokevirtual 29, 3) := by decide +kernel
theorem dL_dockAtEdge_8 : decode cL_dockAtEdge 8 = .ok (.i2l, 1) := by decide +kernel
theorem dL_dockAtEdge_9 : decode cL_dockAtEdge 9 = .ok (.lastore, 1) := by decide +kernel
theorem dL_dockAtEdge_10 : decode cL_dockAtEdge 10 = .ok (.goto 11, 3) := by decide +kernel
theorem dL_dockAtEdge_13 : decode cL_dockAtEdge 13 = .ok (.astore 4, 2) := by decide +kernel
theorem dL_dockAtEdge_15 : decode cL_dockAtEdge 15 = .ok (.iconst 1, 1) := by decide +kernel
theorem dL_dockAtEdge_16 : decode cL_dockAtEdge 16 = .ok (.ireturn, 1) := by decide +kernel
theorem dL_dockAtEdge_17 : decode cL_dockAtEdge 17 = .ok (.astore 4, 2) := by decide +kernel
theorem dL_dockAtEdge_19 : decode cL_dockAtEdge 19 = .ok (.iconst 2, 1) := by decide +kernel
theorem dL_dockAtEdge_20 : decode cL_dockAtEdge 20 = .ok (.ireturn, 1) := by decide +kernel
theorem dL_dockAtEdge_21 : decode cL_dockAtEdge 21 = .ok (.iconst 0, 1) := by decide +kernel
theorem dL_dockAtEdge_22 : decode cL_dockAtEdge 22 = .ok (.ireturn, 1) := by decide +kernel
theorem L_dockAtEdge_k (hG : GP G) (hO : hasS S o (.inl (1, 1))) (hA : hasS S a (.inr (.inr (6, ks)))) (hfc : fc ≤ 8) {x1 x2 : Int} (hM : Ct G l yX8_dockAtEdge wsX8_dockAtEdge fc 0 0 [.ref a, .int (I32 x1), .int (I32 x2)] S n mu la (Dt (some (.int (I32 v))) S n mu' la)) : Ct G l yL_dockAtEdge wsL_dockAtEdge 9 1 6 [.ref a, .int (I32 x1), .int (I32 x2), .ref o] S n mu la (Lp S 0 mu' (upl la o 0 (I32 v).toInt64)) := by
  refine Ct.ofH (cc := cL_dockAtEdge) (nL := 5) (ret := some .int) (hh := [(0, 10, 13, 24), (0, 10, 17, 13)]) [some (.ref a), some (.int (I32 x1)), some (.int (I32 x2)), some (.ref o), none] hG (by decide) rfl (Nat.le_of_ble_eq_true rfl) rfl ?_
  rintro X rfl rfl C ht hcl hsl E
  refine V_aload_n C dL_dockAtEdge_0 rfl ?_
  refine V_iconst C dL_dockAtEdge_1 ?_
  refine V_aload_n C dL_dockAtEdge_2 rfl ?_
  refine V_iload_n C dL_dockAtEdge_3 rfl ?_
  refine V_iload_n C dL_dockAtEdge_4 rfl ?_
  refine V_callVD (nA := 2) C dL_dockAtEdge_5 hM gL_dockAtEdge_X8_dockAtEdge rfl hA rfl (by decide +kernel) rfl (by omega) (by decide) (Nat.le_of_ble_eq_true rfl) ⟨by omega, by omega⟩ rfl ?_
  refine V_i2l C dL_dockAtEdge_8 ?_
  refine V_last C dL_dockAtEdge_9 hO (by decide) (by decide) ?_
  refine V_goto C 21 dL_dockAtEdge_10 (by decide) ?_
  refine V_iconst C dL_dockAtEdge_21 ?_
  exact V_ireturn C E dL_dockAtEdge_22 (by omega) (by omega) ⟨rfl, rfl, rfl, rfl⟩
theorem L_dockAtEdge_x1 (hG : GP G) (hGN : GN G) (hA : hasS S a (.inr (.inr (6, ks)))) {x1 x2 : Int} (hM : CtX G l yX8_dockAtEdge wsX8_dockAtEdge 7 [.ref a, .int (I32 x1), .int (I32 x2)] S n mu la xE1) : Ct G l yL_dockAtEdge wsL_dockAtEdge 9 1 6 [.ref a, .int (I32 x1), .int (I32 x2), .ref o] S n mu la (Lp S 1 mu la) := by
  refine Ct.ofH (cc := cL_dockAtEdge) (nL := 5) (ret := some .int) (hh := [(0, 10, 13, 24), (0, 10, 17, 13)]) [some (.ref a), some (.int (I32 x1)), some (.int (I32 x2)), some (.ref o), none] hG (by decide) rfl (Nat.le_of_ble_eq_true rfl) rfl ?_
  rintro X rfl rfl C ht hcl hsl E
  have hN := hGN _ C.pe.2.2
  refine V_aload_n C dL_dockAtEdge_0 rfl ?_
  refine V_iconst C dL_dockAtEdge_1 ?_
  refine V_aload_n C dL_dockAtEdge_2 rfl ?_
  refine V_iload_n C dL_dockAtEdge_3 rfl ?_
  refine V_iload_n C dL_dockAtEdge_4 rfl ?_
  refine V_callVC (nA := 2) C dL_dockAtEdge_5 hM gL_dockAtEdge_X8_dockAtEdge rfl hA rfl (by decide +kernel) rfl (by omega) (by decide) (Nat.le_of_ble_eq_true rfl) ⟨by omega, by omega⟩ rfl (name := xE1) [] ⟨0, 10, 13, 24⟩ [⟨0, 10, 17, 13⟩] ht ?_ (by decide) (by decide) (C.ts _ (by decide +kernel)) (cast_self hN.1.1) (fun q9 n9 => ?_)
  · exact fun _ h9 => absurd h9 List.not_mem_nil
  · refine V_astore C dL_dockAtEdge_13 rfl (by decide) ?_
    refine V_iconst C dL_dockAtEdge_15 ?_
    exact V_ireturn C E dL_dockAtEdge_16 (by omega) (by omega) ⟨rfl, rfl, rfl, rfl⟩
theorem L_dockAtEdge_x2 (hG : GP G) (hGN : GN G) (hA : hasS S a (.inr (.inr (6, ks)))) {x1 x2 : Int} (hM : CtX G l yX8_dockAtEdge wsX8_dockAtEdge 7 [.ref a, .int (I32 x1), .int (I32 x2)] S n mu la xE2) : Ct G l yL_dockAtEdge wsL_dockAtEdge 9 1 6 [.ref a, .int (I32 x1), .int (I32 x2), .ref o] S n mu la (Lp S 2 mu la) := by
  refine Ct.ofH (cc := cL_dockAtEdge) (nL := 5) (ret := some .int) (hh := [(0, 10, 13, 24), (0, 10, 17, 13)]) [some (.ref a), some (.int (I32 x1)), some (.int (I32 x2)), some (.ref o), none] hG (by decide) rfl (Nat.le_of_ble_eq_true rfl) rfl ?_
  rintro X rfl rfl C ht hcl hsl E
  have hN := hGN _ C.pe.2.2
  refine V_aload_n C dL_dockAtEdge_0 rfl ?_
  refine V_iconst C dL_dockAtEdge_1 ?_
  refine V_aload_n C dL_dockAtEdge_2 rfl ?_
  refine V_iload_n C dL_dockAtEdge_3 rfl ?_
  refine V_iload_n C dL_dockAtEdge_4 rfl ?_
  refine V_callVC (nA := 2) C dL_dockAtEdge_5 hM gL_dockAtEdge_X8_dockAtEdge rfl hA rfl (by decide +kernel) rfl (by omega) (by decide) (Nat.le_of_ble_eq_true rfl) ⟨by omega, by omega⟩ rfl (name := xE2) [⟨0, 10, 13, 24⟩] ⟨0, 10, 17, 13⟩ [] ht ?_ (by decide) (by decide) (C.ts _ (by decide +kernel)) (cast_self hN.2.1.1) (fun q9 n9 => ?_)
  · exact List.forall_mem_cons.mpr ⟨Or.inr ⟨by decide, xE1, C.ts _ (by decide +kernel), hN.2.1.1⟩, fun _ h9 => absurd h9 List.not_mem_nil⟩
  · refine V_astore C dL_dockAtEdge_17 rfl (by decide) ?_
    refine V_iconst C dL_dockAtEdge_19 ?_
    exact V_ireturn C E dL_dockAtEdge_20 (by omega) (by omega) ⟨rfl, rfl, rfl, rfl⟩
theorem L_dockAtEdge (hG : GP G) (hGN : GN G) (hO : hasS S o (.inl (1, 1))) (hA : hasS S a (.inr (.inr (6, ks)))) (hfc : fc ≤ 8) {x1 x2 : Int} {f c : Int} (hc : (f = 0 ∧ c = 0) ∨ (f = 1 ∧ c = 1) ∨ (f = 2 ∧ c = 2)) (h0 : f = 0 → Ct G l yX8_dockAtEdge wsX8_dockAtEdge fc 0 0 [.ref a, .int (I32 x1), .int (I32 x2)] S n mu la (Dt (some (.int (I32 v))) S n mu' la)) (h1 : f ≠ 0 → CtX G l yX8_dockAtEdge wsX8_dockAtEdge 7 [.ref a, .int (I32 x1), .int (I32 x2)] S n mu la (exn f)) :
    Ct G l yL_dockAtEdge wsL_dockAtEdge 9 1 6 [.ref a, .int (I32 x1), .int (I32 x2), .ref o] S n mu la (Lp S c (if f = 0 then mu' else mu) (if f = 0 then upl la o 0 (I32 v).toInt64 else la)) := by
  rcases hc with ⟨rfl, rfl⟩ | ⟨rfl, rfl⟩ | ⟨rfl, rfl⟩
  · exact L_dockAtEdge_k hG hO hA hfc (h0 rfl)
  · exact L_dockAtEdge_x1 hG hGN hA (h1 (by decide))
  · exact L_dockAtEdge_x2 hG hGN hA (h1 (by decide))
set_option maxRecDepth 20000 in
theorem ggL_floatAt_X8_floatAt : GoodIn wsL_floatAt wsX8_floatAt := goodIn_ca (goodIn_ca (goodIn_ca (goodIn_r _ [7, 8, 9, 10, 11, 12, 6, 13, 14, 15, 16, 17, 18, 19, 20, 21, 22, 23, 24, 25, 26, 27, 28, 29, 30, 31, 32, 33, 34, 35, 36, 37, 38, 39, 40, 41, 42, 43, 44, 45, 46, 47, 48, 49, 50, 51, 52, 53, 54, 55, 56, 57, 58, 59, 60, 61, 62, 63, 64, 65, 66, 67, 68, 69, 70, 71, 72, 73, 74, 75, 76, 77, 78, 79, 80, 81, 82, 83, 84, 85, 86, 87, 88, 89, 90, 91, 92, 93, 94, 95, 96, 97, 98, 99, 100, 101, 102, 103, 104, 105, 106, 107, 108, 109, 110, 111, 112, 113, 114, 115, 116, 117, 118, 119, 120, 121, 122, 123, 124, 125, 126, 127, 128, 129, 130, 131, 132, 133, 134, 135, 136, 137, 138, 139, 140, 141, 142, 143, 144, 145, 146, 147, 148, 149, 150, 151, 152, 153, 154, 155, 156, 157, 158, 159, 160, 161, 162, 163, 164, 165, 166, 167, 168, 169, 170, 171, 172, 173, 174, 175, 176, 177, 178, 179, 180, 181, 182, 183, 184, 185, 186, 187, 188, 189, 190, 191, 192, 193, 194, 195, 196, 197, 198, 199, 200, 201, 202, 203, 204, 205, 206, 207, 208, 209, 210, 211, 212, 213, 214, 215, 216, 217, 218, 219, 220, 221, 222, 223, 224, 225, 226, 227, 228, 229, 230, 231, 232, 233, 234, 235, 236, 237, 238, 239, 240, 241, 242, 243, 244, 245, 246, 247, 248, 249, 250, 251, 252, 253, 254, 255, 256, 257, 258, 259, 260, 261, 262, 263, 264, 265, 266, 267, 268, 269, 270, 271, 272, 273, 274, 275, 276, 277, 278, 279, 280, 281, 282, 283, 284, 285, 286, 287, 288, 289, 290, 291, 292, 293, 294, 295, 296, 297, 298, 299, 300, 301, 302, 303, 304, 305, 306, 307, 308, 309, 310, 311, 312, 313, 314, 315, 316, 317, 318, 319, 320, 321, 322] (by decide +kernel) (by decide +kernel)) (goodIn_sub (fun _ h => List.mem_cons_of_mem _ (List.mem_append_left _ (List.mem_append_left _ (List.mem_append_right _ h)))) (by decide +kernel))) (goodIn_sub (fun _ h => List.mem_cons_of_mem _ (List.mem_append_left _ (List.mem_append_right _ h))) (by decide +kernel))) (goodIn_sub (fun _ h => List.mem_cons_of_mem _ (List.mem_append_right _ h)) (by decide +kernel))
set_option maxRecDepth 20000 in
theorem gL_floatAt_X8_floatAt : GoodIn wsL_floatAt (wsV RL 32 RX8 yX8_floatAt wsX8_floatAt) := goodIn_app (goodIn_of _ (by decide +kernel)) ggL_floatAt_X8_floatAt
theorem dL_floatAt_0 : decode cL_floatAt 0 = .ok (.aload 6, 2) := by decide +kernel
theorem dL_floatAt_2 : decode cL_floatAt 2 = .ok (.iconst 0, 1) := by decide +kernel
theorem dL_floatAt_3 : decode cL_floatAt 3 = .ok (.aload_n 0, 1) := by decide +kernel
theorem dL_floatAt_4 : decode cL_floatAt 4 = .ok (.iload_n 1, 1) := by decide +kernel
theorem dL_floatAt_5 : decode cL_floatAt 5 = .ok (.iload_n 2, 1) := by decide +kernel
theorem dL_floatAt_6 : decode cL_floatAt 6 = .ok (.iload_n 3, 1) := by decide +kernel
theorem dL_floatAt_7 : decode cL_floatAt 7 = .ok (.iload 4, 2) := by decide +kernel
theorem dL_floatAt_9 : decode cL_floatAt 9 = .ok (.iload 5, 2) := by decide +kernel
theorem dL_floatAt_11 : decode cL_floatAt 11 = .ok (.invokevirtual 32, 3) := by decide +kernel
theorem dL_floatAt_14 : decode cL_floatAt 14 = .ok (.i2l, 1) := by decide +kernel
theorem dL_floatAt_15 : decode cL_floatAt 15 = .ok (.lastore, 1) := by decide +kernel
theorem dL_floatAt_16 : decode cL_floatAt 16 = .ok (.goto 11, 3) := by decide +kernel
theorem dL_floatAt_19 : decode cL_floatAt 19 = .ok (.astore 7, 2) := by decide +kernel
theorem dL_floatAt_21 : decode cL_floatAt 21 = .ok (.iconst 1, 1) := by decide +kernel
theorem dL_floatAt_22 : decode cL_floatAt 22 = .ok (.ireturn, 1) := by decide +kernel
theorem dL_floatAt_23 : decode cL_floatAt 23 = .ok (.astore 7, 2) := by decide +kernel
theorem dL_floatAt_25 : decode cL_floatAt 25 = .ok (.iconst 2, 1) := by decide +kernel
theorem dL_floatAt_26 : decode cL_floatAt 26 = .ok (.ireturn, 1) := by decide +kernel
theorem dL_floatAt_27 : decode cL_floatAt 27 = .ok (.iconst 0, 1) := by decide +kernel
theorem dL_floatAt_28 : decode cL_floatAt 28 = .ok (.ireturn, 1) := by decide +kernel
theorem L_floatAt_k (hG : GP G) (hO : hasS S o (.inl (1, 1))) (hA : hasS S a (.inr (.inr (6, ks)))) (hfc : fc ≤ 8) {x1 x2 x3 x4 x5 : Int} (hM : Ct G l yX8_floatAt wsX8_floatAt fc 0 0 [.ref a, .int (I32 x1), .int (I32 x2), .int (I32 x3), .int (I32 x4), .int (I32 x5)] S n mu la (Dt (some (.int (I32 v))) S n mu' la)) : Ct G l yL_floatAt wsL_floatAt 9 1 6 [.ref a, .int (I32 x1), .int (I32 x2), .int (I32 x3), .int (I32 x4), .int (I32 x5), .ref o] S n mu la (Lp S 0 mu' (upl la o 0 (I32 v).toInt64)) := by
  refine Ct.ofH (cc := cL_floatAt) (nL := 8) (ret := some .int) (hh := [(0, 16, 19, 24), (0, 16, 23, 13)]) [some (.ref a), some (.int (I32 x1)), some (.int (I32 x2)), some (.int (I32 x3)), some (.int (I32 x4)), some (.int (I32 x5)), some (.ref o), none] hG (by decide) rfl (Nat.le_of_ble_eq_true rfl) rfl ?_
  rintro X rfl rfl C ht hcl hsl E
  refine V_aload C dL_floatAt_0 rfl ?_
  refine V_iconst C dL_floatAt_2 ?_
  refine V_aload_n C dL_floatAt_3 rfl ?_
  refine V_iload_n C dL_floatAt_4 rfl ?_
  refine V_iload_n C dL_floatAt_5 rfl ?_
  refine V_iload_n C dL_floatAt_6 rfl ?_
  refine V_iload C dL_floatAt_7 rfl ?_
  refine V_iload C dL_floatAt_9 rfl ?_
  refine V_callVD (nA := 5) C dL_floatAt_11 hM gL_floatAt_X8_floatAt rfl hA rfl (by decide +kernel) rfl (by omega) (by decide) (Nat.le_of_ble_eq_true rfl) ⟨by omega, by omega⟩ rfl ?_
  refine V_i2l C dL_floatAt_14 ?_
  refine V_last C dL_floatAt_15 hO (by decide) (by decide) ?_
  refine V_goto C 27 dL_floatAt_16 (by decide) ?_
  refine V_iconst C dL_floatAt_27 ?_
  exact V_ireturn C E dL_floatAt_28 (by omega) (by omega) ⟨rfl, rfl, rfl, rfl⟩
theorem L_floatAt_x1 (hG : GP G) (hGN : GN G) (hA : hasS S a (.inr (.inr (6, ks)))) {x1 x2 x3 x4 x5 : Int} (hM : CtX G l yX8_floatAt wsX8_floatAt 7 [.ref a, .int (I32 x1), .int (I32 x2), .int (I32 x3), .int (I32 x4), .int (I32 x5)] S n mu la xE1) : Ct G l yL_floatAt wsL_floatAt 9 1 6 [.ref a, .int (I32 x1), .int (I32 x2), .int (I32 x3), .int (I32 x4), .int (I32 x5), .ref o] S n mu la (Lp S 1 mu la) := by
  refine Ct.ofH (cc := cL_floatAt) (nL := 8) (ret := some .int) (hh := [(0, 16, 19, 24), (0, 16, 23, 13)]) [some (.ref a), some (.int (I32 x1)), some (.int (I32 x2)), some (.int (I32 x3)), some (.int (I32 x4)), some (.int (I32 x5)), some (.ref o), none] hG (by decide) rfl (Nat.le_of_ble_eq_true rfl) rfl ?_
  rintro X rfl rfl C ht hcl hsl E
  have hN := hGN _ C.pe.2.2
  refine V_aload C dL_floatAt_0 rfl ?_
  refine V_iconst C dL_floatAt_2 ?_
  refine V_aload_n C dL_floatAt_3 rfl ?_
  refine V_iload_n C dL_floatAt_4 rfl ?_
  refine V_iload_n C dL_floatAt_5 rfl ?_
  refine V_iload_n C dL_floatAt_6 rfl ?_
  refine V_iload C dL_floatAt_7 rfl ?_
  refine V_iload C dL_floatAt_9 rfl ?_
  refine V_callVC (nA := 5) C dL_floatAt_11 hM gL_floatAt_X8_floatAt rfl hA rfl (by decide +kernel) rfl (by omega) (by decide) (Nat.le_of_ble_eq_true rfl) ⟨by omega, by omega⟩ rfl (name := xE1) [] ⟨0, 16, 19, 24⟩ [⟨0, 16, 23, 13⟩] ht ?_ (by decide) (by decide) (C.ts _ (by decide +kernel)) (cast_self hN.1.1) (fun q9 n9 => ?_)
  · exact fun _ h9 => absurd h9 List.not_mem_nil
  · refine V_astore C dL_floatAt_19 rfl (by decide) ?_
    refine V_iconst C dL_floatAt_21 ?_
    exact V_ireturn C E dL_floatAt_22 (by omega) (by omega) ⟨rfl, rfl, rfl, rfl⟩
theorem L_floatAt_x2 (hG : GP G) (hGN : GN G) (hA : hasS S a (.inr (.inr (6, ks)))) {x1 x2 x3 x4 x5 : Int} (hM : CtX G l yX8_floatAt wsX8_floatAt 7 [.ref a, .int (I32 x1), .int (I32 x2), .int (I32 x3), .int (I32 x4), .int (I32 x5)] S n mu la xE2) : Ct G l yL_floatAt wsL_floatAt 9 1 6 [.ref a, .int (I32 x1), .int (I32 x2), .int (I32 x3), .int (I32 x4), .int (I32 x5), .ref o] S n mu la (Lp S 2 mu la) := by
  refine Ct.ofH (cc := cL_floatAt) (nL := 8) (ret := some .int) (hh := [(0, 16, 19, 24), (0, 16, 23, 13)]) [some (.ref a), some (.int (I32 x1)), some (.int (I32 x2)), some (.int (I32 x3)), some (.int (I32 x4)), some (.int (I32 x5)), some (.ref o), none] hG (by decide) rfl (Nat.le_of_ble_eq_true rfl) rfl ?_
  rintro X rfl rfl C ht hcl hsl E
  have hN := hGN _ C.pe.2.2
  refine V_aload C dL_floatAt_0 rfl ?_
  refine V_iconst C dL_floatAt_2 ?_
  refine V_aload_n C dL_floatAt_3 rfl ?_
  refine V_iload_n C dL_floatAt_4 rfl ?_
  refine V_iload_n C dL_floatAt_5 rfl ?_
  refine V_iload_n C dL_floatAt_6 rfl ?_
  refine V_iload C dL_floatAt_7 rfl ?_
  refine V_iload C dL_floatAt_9 rfl ?_
  refine V_callVC (nA := 5) C dL_floatAt_11 hM gL_floatAt_X8_floatAt rfl hA rfl (by decide +kernel) rfl (by omega) (by decide) (Nat.le_of_ble_eq_true rfl) ⟨by omega, by omega⟩ rfl (name := xE2) [⟨0, 16, 19, 24⟩] ⟨0, 16, 23, 13⟩ [] ht ?_ (by decide) (by decide) (C.ts _ (by decide +kernel)) (cast_self hN.2.1.1) (fun q9 n9 => ?_)
  · exact List.forall_mem_cons.mpr ⟨Or.inr ⟨by decide, xE1, C.ts _ (by decide +kernel), hN.2.1.1⟩, fun _ h9 => absurd h9 List.not_mem_nil⟩
  · refine V_astore C dL_floatAt_23 rfl (by decide) ?_
    refine V_iconst C dL_floatAt_25 ?_
    exact V_ireturn C E dL_floatAt_26 (by omega) (by omega) ⟨rfl, rfl, rfl, rfl⟩
theorem L_floatAt (hG : GP G) (hGN : GN G) (hO : hasS S o (.inl (1, 1))) (hA : hasS S a (.inr (.inr (6, ks)))) (hfc : fc ≤ 8) {x1 x2 x3 x4 x5 : Int} {f c : Int} (hc : (f = 0 ∧ c = 0) ∨ (f = 1 ∧ c = 1) ∨ (f = 2 ∧ c = 2)) (h0 : f = 0 → Ct G l yX8_floatAt wsX8_floatAt fc 0 0 [.ref a, .int (I32 x1), .int (I32 x2), .int (I32 x3), .int (I32 x4), .int (I32 x5)] S n mu la (Dt (some (.int (I32 v))) S n mu' la)) (h1 : f ≠ 0 → CtX G l yX8_floatAt wsX8_floatAt 7 [.ref a, .int (I32 x1), .int (I32 x2), .int (I32 x3), .int (I32 x4), .int (I32 x5)] S n mu la (exn f)) :
    Ct G l yL_floatAt wsL_floatAt 9 1 6 [.ref a, .int (I32 x1), .int (I32 x2), .int (I32 x3), .int (I32 x4), .int (I32 x5), .ref o] S n mu la (Lp S c (if f = 0 then mu' else mu) (if f = 0 then upl la o 0 (I32 v).toInt64 else la)) := by
  rcases hc with ⟨rfl, rfl⟩ | ⟨rfl, rfl⟩ | ⟨rfl, rfl⟩
  · exact L_floatAt_k hG hO hA hfc (h0 rfl)
  · exact L_floatAt_x1 hG hGN hA (h1 (by decide))
  · exact L_floatAt_x2 hG hGN hA (h1 (by decide))
set_option maxRecDepth 20000 in
theorem ggL_raise_X8_raise : GoodIn wsL_raise wsX8_raise := goodIn_ca (goodIn_ca (goodIn_ca (goodIn_r _ [7, 8, 9, 10, 11, 12, 6, 13, 14, 15, 16, 17, 18, 19, 20, 21, 22, 23, 24, 25, 26, 27, 28, 29, 30, 31, 32, 33, 34, 35, 36, 37, 38, 39, 40, 41, 42, 43, 44, 45, 46, 47, 48, 49, 50, 51, 52, 53, 54, 55, 56, 57, 58, 59, 60, 61, 62, 63, 64, 65, 66, 67, 68, 69, 70, 71, 72, 73, 74, 75, 76, 77, 78, 79, 80, 81, 82, 83, 84, 85, 86, 87, 88, 89, 90, 91, 92, 93, 94, 95, 96, 97, 98, 99, 100, 101, 102, 103, 104, 105, 106, 107, 108, 109, 110, 111, 112, 113, 114, 115, 116, 117, 118, 119, 120, 121, 122, 123, 124, 125, 126, 127, 128, 129, 130, 131, 132, 133, 134, 135, 136, 137, 138, 139, 140, 141, 142, 143, 144, 145, 146, 147, 148, 149, 150, 151, 152, 153, 154, 155, 156, 157, 158, 159, 160, 161, 162, 163, 164, 165, 166, 167, 168, 169, 170, 171, 172, 173, 174, 175, 176, 177, 178, 179, 180, 181, 182, 183, 184, 185, 186, 187, 188, 189, 190, 191, 192, 193, 194, 195, 196, 197, 198, 199, 200, 201, 202, 203, 204, 205, 206, 207, 208, 209, 210, 211, 212, 213, 214, 215, 216, 217, 218, 219, 220, 221, 222, 223, 224, 225, 226, 227, 228, 229, 230, 231, 232, 233, 234, 235, 236, 237, 238, 239, 240, 241, 242, 243, 244, 245, 246, 247, 248, 249, 250, 251, 252, 253, 254, 255, 256, 257, 258, 259, 260, 261, 262, 263, 264, 265, 266, 267, 268, 269, 270, 271, 272, 273, 274, 275, 276, 277, 278, 279, 280, 281, 282, 283, 284, 285, 286, 287, 288, 289, 290, 291, 292, 293, 294, 295, 296, 297] (by decide +kernel) (by decide +kernel)) (goodIn_sub (fun _ h => List.mem_cons_of_mem _ (List.mem_append_left _ (List.mem_append_left _ (List.mem_append_right _ h)))) (by decide +kernel))) (goodIn_sub (fun _ h => List.mem_cons_of_mem _ (List.mem_append_left _ (List.mem_append_right _ h))) (by decide +kernel))) (goodIn_sub (fun _ h => List.mem_cons_of_mem _ (List.mem_append_right _ h)) (by decide +kernel))
set_option maxRecDepth 20000 in
theorem gL_raise_X8_raise : GoodIn wsL_raise (wsV RL 36 RX8 yX8_raise wsX8_raise) := goodIn_app (goodIn_of _ (by decide +kernel)) ggL_raise_X8_raise
theorem dL_raise_0 : decode cL_raise 0 = .ok (.aload_n 2, 1) := by decide +kernel
theorem dL_raise_1 : decode cL_raise 1 = .ok (.iconst 0, 1) := by decide +kernel
theorem dL_raise_2 : decode cL_raise 2 = .ok (.aload_n 0, 1) := by decide +kernel
theorem dL_raise_3 : decode cL_raise 3 = .ok (.iload_n 1, 1) := by decide +kernel
theorem dL_raise_4 : decode cL_raise 4 = .ok (.invokevirtual 36, 3) := by decide +kernel
theorem dL_raise_7 : decode cL_raise 7 = .ok (.i2l, 1) := by decide +kernel
theorem dL_raise_8 : decode cL_raise 8 = .ok (.lastore, 1) := by decide +kernel
theorem dL_raise_9 : decode cL_raise 9 = .ok (.goto 9, 3) := by decide +kernel
theorem dL_raise_12 : decode cL_raise 12 = .ok (.astore_n 3, 1) := by decide +kernel
theorem dL_raise_13 : decode cL_raise 13 = .ok (.iconst 1, 1) := by decide +kernel
theorem dL_raise_14 : decode cL_raise 14 = .ok (.ireturn, 1) := by decide +kernel
theorem dL_raise_15 : decode cL_raise 15 = .ok (.astore_n 3, 1) := by decide +kernel
theorem dL_raise_16 : decode cL_raise 16 = .ok (.iconst 2, 1) := by decide +kernel
theorem dL_raise_17 : decode cL_raise 17 = .ok (.ireturn, 1) := by decide +kernel
theorem dL_raise_18 : decode cL_raise 18 = .ok (.iconst 0, 1) := by decide +kernel
theorem dL_raise_19 : decode cL_raise 19 = .ok (.ireturn, 1) := by decide +kernel
theorem L_raise_k (hG : GP G) (hO : hasS S o (.inl (1, 1))) (hA : hasS S a (.inr (.inr (6, ks)))) (hfc : fc ≤ 8) {x1 : Int} (hM : Ct G l yX8_raise wsX8_raise fc 0 0 [.ref a, .int (I32 x1)] S n mu la (Dt (some (.int (I32 v))) S n mu' la)) : Ct G l yL_raise wsL_raise 9 1 6 [.ref a, .int (I32 x1), .ref o] S n mu la (Lp S 0 mu' (upl la o 0 (I32 v).toInt64)) := by
  refine Ct.ofH (cc := cL_raise) (nL := 4) (ret := some .int) (hh := [(0, 9, 12, 24), (0, 9, 15, 18)]) [some (.ref a), some (.int (I32 x1)), some (.ref o), none] hG (by decide) rfl (Nat.le_of_ble_eq_true rfl) rfl ?_
  rintro X rfl rfl C ht hcl hsl E
  refine V_aload_n C dL_raise_0 rfl ?_
  refine V_iconst C dL_raise_1 ?_
  refine V_aload_n C dL_raise_2 rfl ?_
  refine V_iload_n C dL_raise_3 rfl ?_
  refine V_callVD (nA := 1) C dL_raise_4 hM gL_raise_X8_raise rfl hA rfl (by decide +kernel) rfl (by omega) (by decide) (Nat.le_of_ble_eq_true rfl) ⟨by omega, by omega⟩ rfl ?_
  refine V_i2l C dL_raise_7 ?_
  refine V_last C dL_raise_8 hO (by decide) (by decide) ?_
  refine V_goto C 18 dL_raise_9 (by decide) ?_
  refine V_iconst C dL_raise_18 ?_
  exact V_ireturn C E dL_raise_19 (by omega) (by omega) ⟨rfl, rfl, rfl, rfl⟩
theorem L_raise_x1 (hG : GP G) (hGN : GN G) (hA : hasS S a (.inr (.inr (6, ks)))) {x1 : Int} (hM : CtX G l yX8_raise wsX8_raise 7 [.ref a, .int (I32 x1)] S n mu la xE1) : Ct G l yL_raise wsL_raise 9 1 6 [.ref a, .int (I32 x1), .ref o] S n mu la (Lp S 1 mu la) := by
  refine Ct.ofH (cc := cL_raise) (nL := 4) (ret := some .int) (hh := [(0, 9, 12, 24), (0, 9, 15, 18)]) [some (.ref a), some (.int (I32 x1)), some (.ref o), none] hG (by decide) rfl (Nat.le_of_ble_eq_true rfl) rfl ?_
  rintro X rfl rfl C ht hcl hsl E
  have hN := hGN _ C.pe.2.2
  refine V_aload_n C dL_raise_0 rfl ?_
  refine V_iconst C dL_raise_1 ?_
  refine V_aload_n C dL_raise_2 rfl ?_
  refine V_iload_n C dL_raise_3 rfl ?_
  refine V_callVC (nA := 1) C dL_raise_4 hM gL_raise_X8_raise rfl hA rfl (by decide +kernel) rfl (by omega) (by decide) (Nat.le_of_ble_eq_true rfl) ⟨by omega, by omega⟩ rfl (name := xE1) [] ⟨0, 9, 12, 24⟩ [⟨0, 9, 15, 18⟩] ht ?_ (by decide) (by decide) (C.ts _ (by decide +kernel)) (cast_self hN.1.1) (fun q9 n9 => ?_)
  · exact fun _ h9 => absurd h9 List.not_mem_nil
  · refine V_astore_n C dL_raise_12 rfl (by decide) ?_
    refine V_iconst C dL_raise_13 ?_
    exact V_ireturn C E dL_raise_14 (by omega) (by omega) ⟨rfl, rfl, rfl, rfl⟩
theorem L_raise_x3 (hG : GP G) (hGN : GN G) (hA : hasS S a (.inr (.inr (6, ks)))) {x1 : Int} (hM : CtX G l yX8_raise wsX8_raise 7 [.ref a, .int (I32 x1)] S n mu la xE3) : Ct G l yL_raise wsL_raise 9 1 6 [.ref a, .int (I32 x1), .ref o] S n mu la (Lp S 2 mu la) := by
  refine Ct.ofH (cc := cL_raise) (nL := 4) (ret := some .int) (hh := [(0, 9, 12, 24), (0, 9, 15, 18)]) [some (.ref a), some (.int (I32 x1)), some (.ref o), none] hG (by decide) rfl (Nat.le_of_ble_eq_true rfl) rfl ?_
  rintro X rfl rfl C ht hcl hsl E
  have hN := hGN _ C.pe.2.2
  refine V_aload_n C dL_raise_0 rfl ?_
  refine V_iconst C dL_raise_1 ?_
  refine V_aload_n C dL_raise_2 rfl ?_
  refine V_iload_n C dL_raise_3 rfl ?_
  refine V_callVC (nA := 1) C dL_raise_4 hM gL_raise_X8_raise rfl hA rfl (by decide +kernel) rfl (by omega) (by decide) (Nat.le_of_ble_eq_true rfl) ⟨by omega, by omega⟩ rfl (name := xE3) [⟨0, 9, 12, 24⟩] ⟨0, 9, 15, 18⟩ [] ht ?_ (by decide) (by decide) (C.ts _ (by decide +kernel)) (cast_self hN.2.2.1) (fun q9 n9 => ?_)
  · exact List.forall_mem_cons.mpr ⟨Or.inr ⟨by decide, xE1, C.ts _ (by decide +kernel), hN.2.2.1⟩, fun _ h9 => absurd h9 List.not_mem_nil⟩
  · refine V_astore_n C dL_raise_15 rfl (by decide) ?_
    refine V_iconst C dL_raise_16 ?_
    exact V_ireturn C E dL_raise_17 (by omega) (by omega) ⟨rfl, rfl, rfl, rfl⟩
theorem L_raise (hG : GP G) (hGN : GN G) (hO : hasS S o (.inl (1, 1))) (hA : hasS S a (.inr (.inr (6, ks)))) (hfc : fc ≤ 8) {x1 : Int} {f c : Int} (hc : (f = 0 ∧ c = 0) ∨ (f = 1 ∧ c = 1) ∨ (f = 3 ∧ c = 2)) (h0 : f = 0 → Ct G l yX8_raise wsX8_raise fc 0 0 [.ref a, .int (I32 x1)] S n mu la (Dt (some (.int (I32 v))) S n mu' la)) (h1 : f ≠ 0 → CtX G l yX8_raise wsX8_raise 7 [.ref a, .int (I32 x1)] S n mu la (exn f)) :
    Ct G l yL_raise wsL_raise 9 1 6 [.ref a, .int (I32 x1), .ref o] S n mu la (Lp S c (if f = 0 then mu' else mu) (if f = 0 then upl la o 0 (I32 v).toInt64 else la)) := by
  rcases hc with ⟨rfl, rfl⟩ | ⟨rfl, rfl⟩ | ⟨rfl, rfl⟩
  · exact L_raise_k hG hO hA hfc (h0 rfl)
  · exact L_raise_x1 hG hGN hA (h1 (by decide))
  · exact L_raise_x3 hG hGN hA (h1 (by decide))
set_option maxRecDepth 20000 in
theorem ggL_close_X8_close : GoodIn wsL_close wsX8_close := goodIn_ca (goodIn_ca (goodIn_ca (goodIn_r _ [6, 7, 8, 9, 10, 11, 5, 12, 13, 14, 15, 16, 17, 18, 19, 20, 21, 22, 23, 24, 25, 26, 27, 28, 29, 30, 31, 32, 33, 34, 35, 36, 37, 38, 39, 40, 41, 42, 43, 44, 45, 46, 47, 48, 49, 50, 51, 52, 53, 54, 55, 56, 57, 58, 59, 60, 61, 62, 63, 64, 65, 66, 67, 68, 69, 70, 71, 72, 73, 74, 75, 76, 77, 78, 79, 80, 81, 82, 83, 84, 85, 86, 87, 88, 89, 90, 91, 92, 93, 94, 95, 96, 97, 98, 99, 100, 101, 102, 103, 104, 105, 106, 107, 108, 109, 110, 111, 112, 113, 114, 115, 116, 117, 118, 119, 120, 121, 122, 123, 124, 125, 126, 127, 128, 129, 130, 131, 132, 133, 134, 135, 136, 137, 138, 139, 140, 141, 142, 143, 144, 145, 146, 147, 148, 149, 150, 151, 152, 153, 154, 155, 156, 157, 158, 159, 160, 161, 162, 163, 164, 165, 166, 167, 168, 169, 170, 171, 172, 173, 174, 175, 176, 177, 178, 179, 180, 181, 182, 183, 184, 185, 186, 187, 188, 189, 190, 191, 192, 193, 194, 195, 196, 197, 198, 199, 200, 201, 202, 203, 204, 205, 206, 207, 208, 209, 210, 211, 212, 213, 214, 215, 216, 217, 218, 219, 220, 221, 222, 223, 224, 225, 226, 227, 228, 229, 230, 231, 232, 233, 234, 235, 236, 237, 238, 239, 240, 241, 242, 243, 244, 245, 246, 247, 248, 249, 250, 251, 252, 253, 254, 255, 256, 257, 258, 259, 260, 261, 262, 263, 264, 265, 266, 267, 268, 269, 270, 271, 272, 273, 274, 275, 276, 277, 278, 279, 280, 281, 282, 283, 284, 285, 286, 287, 288, 289, 290, 291, 292, 293, 294, 295, 296, 297, 298, 299, 300, 301, 302, 303, 304, 305, 306, 307, 308] (by decide +kernel) (by decide +kernel)) (goodIn_sub (fun _ h => List.mem_cons_of_mem _ (List.mem_append_left _ (List.mem_append_left _ (List.mem_append_right _ h)))) (by decide +kernel))) (goodIn_sub (fun _ h => List.mem_cons_of_mem _ (List.mem_append_left _ (List.mem_append_right _ h))) (by decide +kernel))) (goodIn_sub (fun _ h => List.mem_cons_of_mem _ (List.mem_append_right _ h)) (by decide +kernel))
set_option maxRecDepth 20000 in
theorem gL_close_X8_close : GoodIn wsL_close (wsV RL 40 RX8 yX8_close wsX8_close) := goodIn_app (goodIn_of _ (by decide +kernel)) ggL_close_X8_close
theorem dL_close_0 : decode cL_close 0 = .ok (.aload_n 2, 1) := by decide +kernel
theorem dL_close_1 : decode cL_close 1 = .ok (.iconst 0, 1) := by decide +kernel
theorem dL_close_2 : decode cL_close 2 = .ok (.aload_n 0, 1) := by decide +kernel
theorem dL_close_3 : decode cL_close 3 = .ok (.iload_n 1, 1) := by decide +kernel
theorem dL_close_4 : decode cL_close 4 = .ok (.invokevirtual 40, 3) := by decide +kernel
theorem dL_close_7 : decode cL_close 7 = .ok (.i2l, 1) := by decide +kernel
theorem dL_close_8 : decode cL_close 8 = .ok (.lastore, 1) := by decide +kernel
theorem dL_close_9 : decode cL_close 9 = .ok (.goto 6, 3) := by decide +kernel
theorem dL_close_12 : decode cL_close 12 = .ok (.astore_n 3, 1) := by decide +kernel
theorem dL_close_13 : decode cL_close 13 = .ok (.iconst 1, 1) := by decide +kernel
theorem dL_close_14 : decode cL_close 14 = .ok (.ireturn, 1) := by decide +kernel
theorem dL_close_15 : decode cL_close 15 = .ok (.iconst 0, 1) := by decide +kernel
theorem dL_close_16 : decode cL_close 16 = .ok (.ireturn, 1) := by decide +kernel
theorem L_close_k (hG : GP G) (hO : hasS S o (.inl (1, 1))) (hA : hasS S a (.inr (.inr (6, ks)))) (hfc : fc ≤ 8) {x1 : Int} (hM : Ct G l yX8_close wsX8_close fc 0 0 [.ref a, .int (I32 x1)] S n mu la (Dt (some (.int (I32 v))) S n mu' la)) : Ct G l yL_close wsL_close 9 1 6 [.ref a, .int (I32 x1), .ref o] S n mu la (Lp S 0 mu' (upl la o 0 (I32 v).toInt64)) := by
  refine Ct.ofH (cc := cL_close) (nL := 4) (ret := some .int) (hh := [(0, 9, 12, 24)]) [some (.ref a), some (.int (I32 x1)), some (.ref o), none] hG (by decide) rfl (Nat.le_of_ble_eq_true rfl) rfl ?_
  rintro X rfl rfl C ht hcl hsl E
  refine V_aload_n C dL_close_0 rfl ?_
  refine V_iconst C dL_close_1 ?_
  refine V_aload_n C dL_close_2 rfl ?_
  refine V_iload_n C dL_close_3 rfl ?_
  refine V_callVD (nA := 1) C dL_close_4 hM gL_close_X8_close rfl hA rfl (by decide +kernel) rfl (by omega) (by decide) (Nat.le_of_ble_eq_true rfl) ⟨by omega, by omega⟩ rfl ?_
  refine V_i2l C dL_close_7 ?_
  refine V_last C dL_close_8 hO (by decide) (by decide) ?_
  refine V_goto C 15 dL_close_9 (by decide) ?_
  refine V_iconst C dL_close_15 ?_
  exact V_ireturn C E dL_close_16 (by omega) (by omega) ⟨rfl, rfl, rfl, rfl⟩
theorem L_close_x1 (hG : GP G) (hGN : GN G) (hA : hasS S a (.inr (.inr (6, ks)))) {x1 : Int} (hM : CtX G l yX8_close wsX8_close 7 [.ref a, .int (I32 x1)] S n mu la xE1) : Ct G l yL_close wsL_close 9 1 6 [.ref a, .int (I32 x1), .ref o] S n mu la (Lp S 1 mu la) := by
  refine Ct.ofH (cc := cL_close) (nL := 4) (ret := some .int) (hh := [(0, 9, 12, 24)]) [some (.ref a), some (.int (I32 x1)), some (.ref o), none] hG (by decide) rfl (Nat.le_of_ble_eq_true rfl) rfl ?_
  rintro X rfl rfl C ht hcl hsl E
  have hN := hGN _ C.pe.2.2
  refine V_aload_n C dL_close_0 rfl ?_
  refine V_iconst C dL_close_1 ?_
  refine V_aload_n C dL_close_2 rfl ?_
  refine V_iload_n C dL_close_3 rfl ?_
  refine V_callVC (nA := 1) C dL_close_4 hM gL_close_X8_close rfl hA rfl (by decide +kernel) rfl (by omega) (by decide) (Nat.le_of_ble_eq_true rfl) ⟨by omega, by omega⟩ rfl (name := xE1) [] ⟨0, 9, 12, 24⟩ [] ht ?_ (by decide) (by decide) (C.ts _ (by decide +kernel)) (cast_self hN.1.1) (fun q9 n9 => ?_)
  · exact fun _ h9 => absurd h9 List.not_mem_nil
  · refine V_astore_n C dL_close_12 rfl (by decide) ?_
    refine V_iconst C dL_close_13 ?_
    exact V_ireturn C E dL_close_14 (by omega) (by omega) ⟨rfl, rfl, rfl, rfl⟩
theorem L_close (hG : GP G) (hGN : GN G) (hO : hasS S o (.inl (1, 1))) (hA : hasS S a (.inr (.inr (6, ks)))) (hfc : fc ≤ 8) {x1 : Int} {f c : Int} (hc : (f = 0 ∧ c = 0) ∨ (f = 1 ∧ c = 1)) (h0 : f = 0 → Ct G l yX8_close wsX8_close fc 0 0 [.ref a, .int (I32 x1)] S n mu la (Dt (some (.int (I32 v))) S n mu' la)) (h1 : f ≠ 0 → CtX G l yX8_close wsX8_close 7 [.ref a, .int (I32 x1)] S n mu la (exn f)) :
    Ct G l yL_close wsL_close 9 1 6 [.ref a, .int (I32 x1), .ref o] S n mu la (Lp S c (if f = 0 then mu' else mu) (if f = 0 then upl la o 0 (I32 v).toInt64 else la)) := by
  rcases hc with ⟨rfl, rfl⟩ | ⟨rfl, rfl⟩
  · exact L_close_k hG hO hA hfc (h0 rfl)
  · exact L_close_x1 hG hGN hA (h1 (by decide))
set_option maxRecDepth 20000 in
theorem ggL_activate_X8_activate : GoodIn wsL_activate wsX8_activate := goodIn_ca (goodIn_ca (goodIn_ca (goodIn_r _ [7, 8, 9, 10, 11, 12, 6, 13, 14, 15, 16, 17, 18, 19, 20, 21, 22, 23, 24, 25, 26, 27, 28, 29, 30, 31, 32, 33, 34, 35, 36, 37, 38, 39, 40, 41, 42, 43, 44, 45, 46, 47, 48, 49, 50, 51, 52, 53, 54, 55, 56, 57, 58, 59, 60, 61, 62, 63, 64, 65, 66, 67, 68, 69, 70, 71, 72, 73, 74, 75, 76, 77, 78, 79, 80, 81, 82, 83, 84, 85, 86, 87, 88, 89, 90, 91, 92, 93, 94, 95, 96, 97, 98, 99, 100, 101, 102, 103, 104, 105, 106, 107, 108, 109, 110, 111, 112, 113, 114, 115, 116, 117, 118, 119, 120, 121, 122, 123, 124, 125, 126, 127, 128, 129, 130] (by decide +kernel) (by decide +kernel)) (goodIn_sub (fun _ h => List.mem_cons_of_mem _ (List.mem_append_left _ (List.mem_append_left _ (List.mem_append_right _ h)))) (by decide +kernel))) (goodIn_sub (fun _ h => List.mem_cons_of_mem _ (List.mem_append_left _ (List.mem_append_right _ h))) (by decide +kernel))) (goodIn_sub (fun _ h => List.mem_cons_of_mem _ (List.mem_append_right _ h)) (by decide +kernel))
set_option maxRecDepth 20000 in
theorem gL_activate_X8_activate : GoodIn wsL_activate (wsV RL 43 RX8 yX8_activate wsX8_activate) := goodIn_app (goodIn_of _ (by decide +kernel)) ggL_activate_X8_activate
theorem dL_activate_0 : decode cL_activate 0 = .ok (.aload_n 2, 1) := by decide +kernel
theorem dL_activate_1 : decode cL_activate 1 = .ok (.iconst 0, 1) := by decide +kernel
theorem dL_activate_2 : decode cL_activate 2 = .ok (.aload_n 0, 1) := by decide +kernel
theorem dL_activate_3 : decode cL_activate 3 = .ok (.iload_n 1, 1) := by decide +kernel
theorem dL_activate_4 : decode cL_activate 4 = .ok (.invokevirtual 43, 3) := by decide +kernel
theorem dL_activate_7 : decode cL_activate 7 = .ok (.i2l, 1) := by decide +kernel
theorem dL_activate_8 : decode cL_activate 8 = .ok (.lastore, 1) := by decide +kernel
theorem dL_activate_9 : decode cL_activate 9 = .ok (.goto 9, 3) := by decide +kernel
theorem dL_activate_12 : decode cL_activate 12 = .ok (.astore_n 3, 1) := by decide +kernel
theorem dL_activate_13 : decode cL_activate 13 = .ok (.iconst 1, 1) := by decide +kernel
theorem dL_activate_14 : decode cL_activate 14 = .ok (.ireturn, 1) := by decide +kernel
theorem dL_activate_15 : decode cL_activate 15 = .ok (.astore_n 3, 1) := by decide +kernel
theorem dL_activate_16 : decode cL_activate 16 = .ok (.iconst 2, 1) := by decide +kernel
theorem dL_activate_17 : decode cL_activate 17 = .ok (.ireturn, 1) := by decide +kernel
theorem dL_activate_18 : decode cL_activate 18 = .ok (.iconst 0, 1) := by decide +kernel
theorem dL_activate_19 : decode cL_activate 19 = .ok (.ireturn, 1) := by decide +kernel
theorem L_activate_k (hG : GP G) (hO : hasS S o (.inl (1, 1))) (hA : hasS S a (.inr (.inr (6, ks)))) (hfc : fc ≤ 8) {x1 : Int} (hM : Ct G l yX8_activate wsX8_activate fc 0 0 [.ref a, .int (I32 x1)] S n mu la (Dt (some (.int (I32 v))) S n mu' la)) : Ct G l yL_activate wsL_activate 9 1 6 [.ref a, .int (I32 x1), .ref o] S n mu la (Lp S 0 mu' (upl la o 0 (I32 v).toInt64)) := by
  refine Ct.ofH (cc := cL_activate) (nL := 4) (ret := some .int) (hh := [(0, 9, 12, 24), (0, 9, 15, 18)]) [some (.ref a), some (.int (I32 x1)), some (.ref o), none] hG (by decide) rfl (Nat.le_of_ble_eq_true rfl) rfl ?_
  rintro X rfl rfl C ht hcl hsl E
  refine V_aload_n C dL_activate_0 rfl ?_
  refine V_iconst C dL_activate_1 ?_
  refine V_aload_n C dL_activate_2 rfl ?_
  refine V_iload_n C dL_activate_3 rfl ?_
  refine V_callVD (nA := 1) C dL_activate_4 hM gL_activate_X8_activate rfl hA rfl (by decide +kernel) rfl (by omega) (by decide) (Nat.le_of_ble_eq_true rfl) ⟨by omega, by omega⟩ rfl ?_
  refine V_i2l C dL_activate_7 ?_
  refine V_last C dL_activate_8 hO (by decide) (by decide) ?_
  refine V_goto C 18 dL_activate_9 (by decide) ?_
  refine V_iconst C dL_activate_18 ?_
  exact V_ireturn C E dL_activate_19 (by omega) (by omega) ⟨rfl, rfl, rfl, rfl⟩
theorem L_activate_x1 (hG : GP G) (hGN : GN G) (hA : hasS S a (.inr (.inr (6, ks)))) {x1 : Int} (hM : CtX G l yX8_activate wsX8_activate 7 [.ref a, .int (I32 x1)] S n mu la xE1) : Ct G l yL_activate wsL_activate 9 1 6 [.ref a, .int (I32 x1), .ref o] S n mu la (Lp S 1 mu la) := by
  refine Ct.ofH (cc := cL_activate) (nL := 4) (ret := some .int) (hh := [(0, 9, 12, 24), (0, 9, 15, 18)]) [some (.ref a), some (.int (I32 x1)), some (.ref o), none] hG (by decide) rfl (Nat.le_of_ble_eq_true rfl) rfl ?_
  rintro X rfl rfl C ht hcl hsl E
  have hN := hGN _ C.pe.2.2
  refine V_aload_n C dL_activate_0 rfl ?_
  refine V_iconst C dL_activate_1 ?_
  refine V_aload_n C dL_activate_2 rfl ?_
  refine V_iload_n C dL_activate_3 rfl ?_
  refine V_callVC (nA := 1) C dL_activate_4 hM gL_activate_X8_activate rfl hA rfl (by decide +kernel) rfl (by omega) (by decide) (Nat.le_of_ble_eq_true rfl) ⟨by omega, by omega⟩ rfl (name := xE1) [] ⟨0, 9, 12, 24⟩ [⟨0, 9, 15, 18⟩] ht ?_ (by decide) (by decide) (C.ts _ (by decide +kernel)) (cast_self hN.1.1) (fun q9 n9 => ?_)
  · exact fun _ h9 => absurd h9 List.not_mem_nil
  · refine V_astore_n C dL_activate_12 rfl (by decide) ?_
    refine V_iconst C dL_activate_13 ?_
    exact V_ireturn C E dL_activate_14 (by omega) (by omega) ⟨rfl, rfl, rfl, rfl⟩
theorem L_activate_x3 (hG : GP G) (hGN : GN G) (hA : hasS S a (.inr (.inr (6, ks)))) {x1 : Int} (hM : CtX G l yX8_activate wsX8_activate 7 [.ref a, .int (I32 x1)] S n mu la xE3) : Ct G l yL_activate wsL_activate 9 1 6 [.ref a, .int (I32 x1), .ref o] S n mu la (Lp S 2 mu la) := by
  refine Ct.ofH (cc := cL_activate) (nL := 4) (ret := some .int) (hh := [(0, 9, 12, 24), (0, 9, 15, 18)]) [some (.ref a), some (.int (I32 x1)), some (.ref o), none] hG (by decide) rfl (Nat.le_of_ble_eq_true rfl) rfl ?_
  rintro X rfl rfl C ht hcl hsl E
  have hN := hGN _ C.pe.2.2
  refine V_aload_n C dL_activate_0 rfl ?_
  refine V_iconst C dL_activate_1 ?_
  refine V_aload_n C dL_activate_2 rfl ?_
  refine V_iload_n C dL_activate_3 rfl ?_
  refine V_callVC (nA := 1) C dL_activate_4 hM gL_activate_X8_activate rfl hA rfl (by decide +kernel) rfl (by omega) (by decide) (Nat.le_of_ble_eq_true rfl) ⟨by omega, by omega⟩ rfl (name := xE3) [⟨0, 9, 12, 24⟩] ⟨0, 9, 15, 18⟩ [] ht ?_ (by decide) (by decide) (C.ts _ (by decide +kernel)) (cast_self hN.2.2.1) (fun q9 n9 => ?_)
  · exact List.forall_mem_cons.mpr ⟨Or.inr ⟨by decide, xE1, C.ts _ (by decide +kernel), hN.2.2.1⟩, fun _ h9 => absurd h9 List.not_mem_nil⟩
  · refine V_astore_n C dL_activate_15 rfl (by decide) ?_
    refine V_iconst C dL_activate_16 ?_
    exact V_ireturn C E dL_activate_17 (by omega) (by omega) ⟨rfl, rfl, rfl, rfl⟩
theorem L_activate (hG : GP G) (hGN : GN G) (hO : hasS S o (.inl (1, 1))) (hA : hasS S a (.inr (.inr (6, ks)))) (hfc : fc ≤ 8) {x1 : Int} {f c : Int} (hc : (f = 0 ∧ c = 0) ∨ (f = 1 ∧ c = 1) ∨ (f = 3 ∧ c = 2)) (h0 : f = 0 → Ct G l yX8_activate wsX8_activate fc 0 0 [.ref a, .int (I32 x1)] S n mu la (Dt (some (.int (I32 v))) S n mu' la)) (h1 : f ≠ 0 → CtX G l yX8_activate wsX8_activate 7 [.ref a, .int (I32 x1)] S n mu la (exn f)) :
    Ct G l yL_activate wsL_activate 9 1 6 [.ref a, .int (I32 x1), .ref o] S n mu la (Lp S c (if f = 0 then mu' else mu) (if f = 0 then upl la o 0 (I32 v).toInt64 else la)) := by
  rcases hc with ⟨rfl, rfl⟩ | ⟨rfl, rfl⟩ | ⟨rfl, rfl⟩
  · exact L_activate_k hG hO hA hfc (h0 rfl)
  · exact L_activate_x1 hG hGN hA (h1 (by decide))
  · exact L_activate_x3 hG hGN hA (h1 (by decide))
set_option maxRecDepth 20000 in
theorem ggL_moveTab_X8_moveTab : GoodIn wsL_moveTab wsX8_moveTab := goodIn_ca (goodIn_ca (goodIn_ca (goodIn_r _ [8, 9, 10, 11, 12, 13, 7, 14, 15, 16, 17, 18, 19, 20, 21, 22, 23, 24, 25, 26, 27, 28, 29, 30, 31, 32, 33, 34, 35, 36, 37, 38, 39, 40, 41, 42, 43, 44, 45, 46, 47, 48, 49, 50, 51, 52, 53, 54, 55, 56, 57, 58, 59, 60, 61, 62, 63, 64, 65, 66, 67, 68, 69, 70, 71, 72, 73, 74, 75, 76, 77, 78, 79, 80, 81, 82, 83, 84, 85, 86, 87, 88, 89, 90, 91, 92, 93, 94, 95, 96, 97, 98, 99, 100, 101, 102, 103, 104, 105, 106, 107, 108, 109, 110, 111, 112, 113, 114, 115, 116, 117, 118, 119, 120, 121, 122, 123, 124, 125, 126, 127, 128, 129, 130, 131, 132, 133, 134, 135, 136, 137, 138, 139, 140, 141, 142, 143, 144, 145, 146, 147, 148, 149, 150, 151, 152, 153, 154, 155, 156, 157, 158, 159, 160, 161, 162, 163, 164, 165, 166, 167, 168, 169, 170, 171, 172, 173, 174, 175, 176, 177, 178, 179, 180, 181, 182, 183, 184, 185, 186, 187, 188, 189, 190, 191, 192, 193, 194, 195, 196, 197, 198, 199, 200, 201, 202, 203, 204, 205, 206, 207, 208, 209, 210, 211, 212, 213, 214, 215, 216, 217, 218, 219, 220, 221, 222, 223, 224, 225, 226, 227, 228, 229, 230, 231, 232, 233, 234, 235, 236, 237, 238, 239, 240, 241, 242, 243, 244, 245, 246, 247, 248, 249, 250, 251, 252, 253, 254, 255, 256, 257, 258, 259, 260, 261, 262, 263, 264, 265, 266, 267, 268, 269, 270, 271, 272, 273, 274, 275, 276, 277, 278, 279, 280, 281, 282, 283, 284, 285, 286, 287, 288, 289, 290, 291, 292, 293, 294, 295, 296, 297, 298, 299, 300, 301, 302, 303, 304, 305, 306, 307] (by decide +kernel) (by decide +kernel)) (goodIn_sub (fun _ h => List.mem_cons_of_mem _ (List.mem_append_left _ (List.mem_append_left _ (List.mem_append_right _ h)))) (by decide +kernel))) (goodIn_sub (fun _ h => List.mem_cons_of_mem _ (List.mem_append_left _ (List.mem_append_right _ h))) (by decide +kernel))) (goodIn_sub (fun _ h => List.mem_cons_of_mem _ (List.mem_append_right _ h)) (by decide +kernel))
set_option maxRecDepth 20000 in
theorem gL_moveTab_X8_moveTab : GoodIn wsL_moveTab (wsV RL 46 RX8 yX8_moveTab wsX8_moveTab) := goodIn_app (goodIn_of _ (by decide +kernel)) ggL_moveTab_X8_moveTab
theorem dL_moveTab_0 : decode cL_moveTab 0 = .ok (.aload_n 3, 1) := by decide +kernel
theorem dL_moveTab_1 : decode cL_moveTab 1 = .ok (.iconst 0, 1) := by decide +kernel
theorem dL_moveTab_2 : decode cL_moveTab 2 = .ok (.aload_n 0, 1) := by decide +kernel
theorem dL_moveTab_3 : decode cL_moveTab 3 = .ok (.iload_n 1, 1) := by decide +kernel
theorem dL_moveTab_4 : decode cL_moveTab 4 = .ok (.iload_n 2, 1) := by decide +kernel
theorem dL_moveTab_5 : decode cL_moveTab 5 = .ok (.invokevirtual 46, 3) := by decide +kernel
theorem dL_moveTab_8 : decode cL_moveTab 8 = .ok (.i2l, 1) := by decide +kernel
theorem dL_moveTab_9 : decode cL_moveTab 9 = .ok (.lastore, 1) := by decide +kernel
theorem dL_moveTab_10 : decode cL_moveTab 10 = .ok (.goto 15, 3) := by decide +kernel
theorem dL_moveTab_13 : decode cL_moveTab 13 = .ok (.astore 4, 2) := by decide +kernel
theorem dL_moveTab_15 : decode cL_moveTab 15 = .ok (.iconst 1, 1) := by decide +kernel
theorem dL_moveTab_16 : decode cL_moveTab 16 = .ok (.ireturn, 1) := by decide +kernel
theorem dL_moveTab_17 : decode cL_moveTab 17 = .ok (.astore 4, 2) := by decide +kernel
theorem dL_moveTab_19 : decode cL_moveTab 19 = .ok (.iconst 2, 1) := by decide +kernel
theorem dL_moveTab_20 : decode cL_moveTab 20 = .ok (.ireturn, 1) := by decide +kernel
theorem dL_moveTab_21 : decode cL_moveTab 21 = .ok (.astore 4, 2) := by decide +kernel
theorem dL_moveTab_23 : decode cL_moveTab 23 = .ok (.iconst 3, 1) := by decide +kernel
theorem dL_moveTab_24 : decode cL_moveTab 24 = .ok (.ireturn, 1) := by decide +kernel
theorem dL_moveTab_25 : decode cL_moveTab 25 = .ok (.iconst 0, 1) := by decide +kernel
theorem dL_moveTab_26 : decode cL_moveTab 26 = .ok (.ireturn, 1) := by decide +kernel
theorem L_moveTab_k (hG : GP G) (hO : hasS S o (.inl (1, 1))) (hA : hasS S a (.inr (.inr (6, ks)))) (hfc : fc ≤ 8) {x1 x2 : Int} (hM : Ct G l yX8_moveTab wsX8_moveTab fc 0 0 [.ref a, .int (I32 x1), .int (I32 x2)] S n mu la (Dt (some (.int (I32 v))) S n mu' la)) : Ct G l yL_moveTab wsL_moveTab 9 1 6 [.ref a, .int (I32 x1), .int (I32 x2), .ref o] S n mu la (Lp S 0 mu' (upl la o 0 (I32 v).toInt64)) := by
  refine Ct.ofH (cc := cL_moveTab) (nL := 5) (ret := some .int) (hh := [(0, 10, 13, 24), (0, 10, 17, 18), (0, 10, 21, 13)]) [some (.ref a), some (.int (I32 x1)), some (.int (I32 x2)), some (.ref o), none] hG (by decide) rfl (Nat.le_of_ble_eq_true rfl) rfl ?_
  rintro X rfl rfl C ht hcl hsl E
  refine V_aload_n C dL_moveTab_0 rfl ?_
  refine V_iconst C dL_moveTab_1 ?_
  refine V_aload_n C dL_moveTab_2 rfl ?_
  refine V_iload_n C dL_moveTab_3 rfl ?_
  refine V_iload_n C dL_moveTab_4 rfl ?_
  refine V_callVD (nA := 2) C dL_moveTab_5 hM gL_moveTab_X8_moveTab rfl hA rfl (by decide +kernel) rfl (by omega) (by decide) (Nat.le_of_ble_eq_true rfl) ⟨by omega, by omega⟩ rfl ?_
  refine V_i2l C dL_moveTab_8 ?_
  refine V_last C dL_moveTab_9 hO (by decide) (by decide) ?_
  refine V_goto C 25 dL_moveTab_10 (by decide) ?_
  refine V_iconst C dL_moveTab_25 ?_
  exact V_ireturn C E dL_moveTab_26 (by omega) (by omega) ⟨rfl, rfl, rfl, rfl⟩
theorem L_moveTab_x1 (hG : GP G) (hGN : GN G) (hA : hasS S a (.inr (.inr (6, ks)))) {x1 x2 : Int} (hM : CtX G l yX8_moveTab wsX8_moveTab 7 [.ref a, .int (I32 x1), .int (I32 x2)] S n mu la xE1) : Ct G l yL_moveTab wsL_moveTab 9 1 6 [.ref a, .int (I32 x1), .int (I32 x2), .ref o] S n mu la (Lp S 1 mu la) := by
  refine Ct.ofH (cc := cL_moveTab) (nL := 5) (ret := some .int) (hh := [(0, 10, 13, 24), (0, 10, 17, 18), (0, 10, 21, 13)]) [some (.ref a), some (.int (I32 x1)), some (.int (I32 x2)), some (.ref o), none] hG (by decide) rfl (Nat.le_of_ble_eq_true rfl) rfl ?_
  rintro X rfl rfl C ht hcl hsl E
  have hN := hGN _ C.pe.2.2
  refine V_aload_n C dL_moveTab_0 rfl ?_
  refine V_iconst C dL_moveTab_1 ?_
  refine V_aload_n C dL_moveTab_2 rfl ?_
  refine V_iload_n C dL_moveTab_3 rfl ?_
  refine V_iload_n C dL_moveTab_4 rfl ?_
  refine V_callVC (nA := 2) C dL_moveTab_5 hM gL_moveTab_X8_moveTab rfl hA rfl (by decide +kernel) rfl (by omega) (by decide) (Nat.le_of_ble_eq_true rfl) ⟨by omega, by omega⟩ rfl (name := xE1) [] ⟨0, 10, 13, 24⟩ [⟨0, 10, 17, 18⟩, ⟨0, 10, 21, 13⟩] ht ?_ (by decide) (by decide) (C.ts _ (by decide +kernel)) (cast_self hN.1.1) (fun q9 n9 => ?_)
  · exact fun _ h9 => absurd h9 List.not_mem_nil
  · refine V_astore C dL_moveTab_13 rfl (by decide) ?_
    refine V_iconst C dL_moveTab_15 ?_
    exact V_ireturn C E dL_moveTab_16 (by omega) (by omega) ⟨rfl, rfl, rfl, rfl⟩
theorem L_moveTab_x3 (hG : GP G) (hGN : GN G) (hA : hasS S a (.inr (.inr (6, ks)))) {x1 x2 : Int} (hM : CtX G l yX8_moveTab wsX8_moveTab 7 [.ref a, .int (I32 x1), .int (I32 x2)] S n mu la xE3) : Ct G l yL_moveTab wsL_moveTab 9 1 6 [.ref a, .int (I32 x1), .int (I32 x2), .ref o] S n mu la (Lp S 2 mu la) := by
  refine Ct.ofH (cc := cL_moveTab) (nL := 5) (ret := some .int) (hh := [(0, 10, 13, 24), (0, 10, 17, 18), (0, 10, 21, 13)]) [some (.ref a), some (.int (I32 x1)), some (.int (I32 x2)), some (.ref o), none] hG (by decide) rfl (Nat.le_of_ble_eq_true rfl) rfl ?_
  rintro X rfl rfl C ht hcl hsl E
  have hN := hGN _ C.pe.2.2
  refine V_aload_n C dL_moveTab_0 rfl ?_
  refine V_iconst C dL_moveTab_1 ?_
  refine V_aload_n C dL_moveTab_2 rfl ?_
  refine V_iload_n C dL_moveTab_3 rfl ?_
  refine V_iload_n C dL_moveTab_4 rfl ?_
  refine V_callVC (nA := 2) C dL_moveTab_5 hM gL_moveTab_X8_moveTab rfl hA rfl (by decide +kernel) rfl (by omega) (by decide) (Nat.le_of_ble_eq_true rfl) ⟨by omega, by omega⟩ rfl (name := xE3) [⟨0, 10, 13, 24⟩] ⟨0, 10, 17, 18⟩ [⟨0, 10, 21, 13⟩] ht ?_ (by decide) (by decide) (C.ts _ (by decide +kernel)) (cast_self hN.2.2.1) (fun q9 n9 => ?_)
  · exact List.forall_mem_cons.mpr ⟨Or.inr ⟨by decide, xE1, C.ts _ (by decide +kernel), hN.2.2.1⟩, fun _ h9 => absurd h9 List.not_mem_nil⟩
  · refine V_astore C dL_moveTab_17 rfl (by decide) ?_
    refine V_iconst C dL_moveTab_19 ?_
    exact V_ireturn C E dL_moveTab_20 (by omega) (by omega) ⟨rfl, rfl, rfl, rfl⟩
theorem L_moveTab_x2 (hG : GP G) (hGN : GN G) (hA : hasS S a (.inr (.inr (6, ks)))) {x1 x2 : Int} (hM : CtX G l yX8_moveTab wsX8_moveTab 7 [.ref a, .int (I32 x1), .int (I32 x2)] S n mu la xE2) : Ct G l yL_moveTab wsL_moveTab 9 1 6 [.ref a, .int (I32 x1), .int (I32 x2), .ref o] S n mu la (Lp S 3 mu la) := by
  refine Ct.ofH (cc := cL_moveTab) (nL := 5) (ret := some .int) (hh := [(0, 10, 13, 24), (0, 10, 17, 18), (0, 10, 21, 13)]) [some (.ref a), some (.int (I32 x1)), some (.int (I32 x2)), some (.ref o), none] hG (by decide) rfl (Nat.le_of_ble_eq_true rfl) rfl ?_
  rintro X rfl rfl C ht hcl hsl E
  have hN := hGN _ C.pe.2.2
  refine V_aload_n C dL_moveTab_0 rfl ?_
  refine V_iconst C dL_moveTab_1 ?_
  refine V_aload_n C dL_moveTab_2 rfl ?_
  refine V_iload_n C dL_moveTab_3 rfl ?_
  refine V_iload_n C dL_moveTab_4 rfl ?_
  refine V_callVC (nA := 2) C dL_moveTab_5 hM gL_moveTab_X8_moveTab rfl hA rfl (by decide +kernel) rfl (by omega) (by decide) (Nat.le_of_ble_eq_true rfl) ⟨by omega, by omega⟩ rfl (name := xE2) [⟨0, 10, 13, 24⟩, ⟨0, 10, 17, 18⟩] ⟨0, 10, 21, 13⟩ [] ht ?_ (by decide) (by decide) (C.ts _ (by decide +kernel)) (cast_self hN.2.1.1) (fun q9 n9 => ?_)
  · exact List.forall_mem_cons.mpr ⟨Or.inr ⟨by decide, xE1, C.ts _ (by decide +kernel), hN.2.1.1⟩, List.forall_mem_cons.mpr ⟨Or.inr ⟨by decide, xE3, C.ts _ (by decide +kernel), hN.2.1.2⟩, fun _ h9 => absurd h9 List.not_mem_nil⟩⟩
  · refine V_astore C dL_moveTab_21 rfl (by decide) ?_
    refine V_iconst C dL_moveTab_23 ?_
    exact V_ireturn C E dL_moveTab_24 (by omega) (by omega) ⟨rfl, rfl, rfl, rfl⟩
theorem L_moveTab (hG : GP G) (hGN : GN G) (hO : hasS S o (.inl (1, 1))) (hA : hasS S a (.inr (.inr (6, ks)))) (hfc : fc ≤ 8) {x1 x2 : Int} {f c : Int} (hc : (f = 0 ∧ c = 0) ∨ (f = 1 ∧ c = 1) ∨ (f = 3 ∧ c = 2) ∨ (f = 2 ∧ c = 3)) (h0 : f = 0 → Ct G l yX8_moveTab wsX8_moveTab fc 0 0 [.ref a, .int (I32 x1), .int (I32 x2)] S n mu la (Dt (some (.int (I32 v))) S n mu' la)) (h1 : f ≠ 0 → CtX G l yX8_moveTab wsX8_moveTab 7 [.ref a, .int (I32 x1), .int (I32 x2)] S n mu la (exn f)) :
    Ct G l yL_moveTab wsL_moveTab 9 1 6 [.ref a, .int (I32 x1), .int (I32 x2), .ref o] S n mu la (Lp S c (if f = 0 then mu' else mu) (if f = 0 then upl la o 0 (I32 v).toInt64 else la)) := by
  rcases hc with ⟨rfl, rfl⟩ | ⟨rfl, rfl⟩ | ⟨rfl, rfl⟩ | ⟨rfl, rfl⟩
  · exact L_moveTab_k hG hO hA hfc (h0 rfl)
  · exact L_moveTab_x1 hG hGN hA (h1 (by decide))
  · exact L_moveTab_x3 hG hGN hA (h1 (by decide))
  · exact L_moveTab_x2 hG hGN hA (h1 (by decide))
set_option maxRecDepth 20000 in
theorem ggL_setShare_X8_setShare : GoodIn wsL_setShare wsX8_setShare := goodIn_ca (goodIn_ca (goodIn_ca (goodIn_r _ [8, 9, 10, 11, 12, 13, 7, 14, 15, 16, 17, 18, 19, 20, 21, 22, 23, 24, 25, 26, 27, 28, 29, 30, 31, 32, 33, 34, 35, 36, 37, 38, 39, 40, 41, 42, 43, 44, 45, 46, 47, 48, 49, 50, 51, 52, 53, 54, 55, 56, 57, 58, 59, 60, 61, 62, 63, 64, 65, 66, 67, 68, 69, 70, 71, 72, 73, 74, 75, 76, 77, 78, 79, 80, 81, 82, 83, 84, 85, 86, 87, 88, 89, 90, 91, 92, 93, 94, 95, 96, 97, 98, 99, 100, 101, 102, 103, 104, 105, 106, 107, 108, 109, 110, 111, 112, 113, 114, 115, 116, 117, 118, 119, 120, 121, 122, 123, 124, 125, 126, 127, 128, 129, 130, 131, 132, 133, 134, 135, 136, 137, 138, 139, 140, 141, 142, 143, 144, 145, 146, 147, 148, 149, 150, 151, 152, 153, 154, 155, 156, 157, 158, 159, 160, 161, 162, 163, 164, 165, 166, 167, 168, 169, 170, 171, 172, 173, 174, 175, 176, 177, 178, 179, 180, 181, 182, 183, 184, 185, 186, 187, 188, 189, 190, 191, 192, 193, 194, 195, 196, 197, 198, 199, 200, 201, 202, 203, 204, 205, 206, 207, 208, 209, 210, 211, 212, 213, 214, 215, 216, 217, 218, 219, 220, 221, 222, 223, 224, 225, 226, 227, 228, 229, 230, 231, 232, 233, 234, 235, 236, 237, 238, 239, 240, 241, 242, 243, 244, 245, 246, 247, 248, 249, 250, 251, 252, 253, 254, 255, 256, 257, 258, 259, 260, 261, 262, 263, 264, 265, 266, 267, 268, 269, 270, 271, 272, 273, 274, 275, 276, 277, 278, 279, 280, 281, 282, 283, 284, 285] (by decide +kernel) (by decide +kernel)) (goodIn_sub (fun _ h => List.mem_cons_of_mem _ (List.mem_append_left _ (List.mem_append_left _ (List.mem_append_right _ h)))) (by decide +kernel))) (goodIn_sub (fun _ h => List.mem_cons_of_mem _ (List.mem_append_left _ (List.mem_append_right _ h))) (by decide +kernel))) (goodIn_sub (fun _ h => List.mem_cons_of_mem _ (List.mem_append_right _ h)) (by decide +kernel))
set_option maxRecDepth 20000 in
theorem gL_setShare_X8_setShare : GoodIn wsL_setShare (wsV RL 49 RX8 yX8_setShare wsX8_setShare) := goodIn_app (goodIn_of _ (by decide +kernel)) ggL_setShare_X8_setShare
theorem dL_setShare_0 : decode cL_setShare 0 = .ok (.aload_n 3, 1) := by decide +kernel
theorem dL_setShare_1 : decode cL_setShare 1 = .ok (.iconst 0, 1) := by decide +kernel
theorem dL_setShare_2 : decode cL_setShare 2 = .ok (.aload_n 0, 1) := by decide +kernel
theorem dL_setShare_3 : decode cL_setShare 3 = .ok (.iload_n 1, 1) := by decide +kernel
theorem dL_setShare_4 : decode cL_setShare 4 = .ok (.iload_n 2, 1) := by decide +kernel
theorem dL_setShare_5 : decode cL_setShare 5 = .ok (.invokevirtual 49, 3) := by decide +kernel
theorem dL_setShare_8 : decode cL_setShare 8 = .ok (.i2l, 1) := by decide +kernel
theorem dL_setShare_9 : decode cL_setShare 9 = .ok (.lastore, 1) := by decide +kernel
theorem dL_setShare_10 : decode cL_setShare 10 = .ok (.goto 15, 3) := by decide +kernel
theorem dL_setShare_13 : decode cL_setShare 13 = .ok (.astore 4, 2) := by decide +kernel
theorem dL_setShare_15 : decode cL_setShare 15 = .ok (.iconst 1, 1) := by decide +kernel
theorem dL_setShare_16 : decode cL_setShare 16 = .ok (.ireturn, 1) := by decide +kernel
theorem dL_setShare_17 : decode cL_setShare 17 = .ok (.astore 4, 2) := by decide +kernel
theorem dL_setShare_19 : decode cL_setShare 19 = .ok (.iconst 2, 1) := by decide +kernel
theorem dL_setShare_20 : decode cL_setShare 20 = .ok (.ireturn, 1) := by decide +kernel
theorem dL_setShare_21 : decode cL_setShare 21 = .ok (.astore 4, 2) := by decide +kernel
theorem dL_setShare_23 : decode cL_setShare 23 = .ok (.iconst 3, 1) := by decide +kernel
theorem dL_setShare_24 : decode cL_setShare 24 = .ok (.ireturn, 1) := by decide +kernel
theorem dL_setShare_25 : decode cL_setShare 25 = .ok (.iconst 0, 1) := by decide +kernel
theorem dL_setShare_26 : decode cL_setShare 26 = .ok (.ireturn, 1) := by decide +kernel
theorem L_setShare_k (hG : GP G) (hO : hasS S o (.inl (1, 1))) (hA : hasS S a (.inr (.inr (6, ks)))) (hfc : fc ≤ 8) {x1 x2 : Int} (hM : Ct G l yX8_setShare wsX8_setShare fc 0 0 [.ref a, .int (I32 x1), .int (I32 x2)] S n mu la (Dt (some (.int (I32 v))) S n mu' la)) : Ct G l yL_setShare wsL_setShare 9 1 6 [.ref a, .int (I32 x1), .int (I32 x2), .ref o] S n mu la (Lp S 0 mu' (upl la o 0 (I32 v).toInt64)) := by
  refine Ct.ofH (cc := cL_setShare) (nL := 5) (ret := some .int) (hh := [(0, 10, 13, 24), (0, 10, 17, 13), (0, 10, 21, 18)]) [some (.ref a), some (.int (I32 x1)), some (.int (I32 x2)), some (.ref o), none] hG (by decide) rfl (Nat.le_of_ble_eq_true rfl) rfl ?_
  rintro X rfl rfl C ht hcl hsl E
  refine V_aload_n C dL_setShare_0 rfl ?_
  refine V_iconst C dL_setShare_1 ?_
  refine V_aload_n C dL_setShare_2 rfl ?_
  refine V_iload_n C dL_setShare_3 rfl ?_
  refine V_iload_n C dL_setShare_4 rfl ?_
  refine V_callVD (nA := 2) C dL_setShare_5 hM gL_setShare_X8_setShare rfl hA rfl (by decide +kernel) rfl (by omega) (by decide) (Nat.le_of_ble_eq_true rfl) ⟨by omega, by omega⟩ rfl ?_
  refine V_i2l C dL_setShare_8 ?_
  refine V_last C dL_setShare_9 hO (by decide) (by decide) ?_
  refine V_goto C 25 dL_setShare_10 (by decide) ?_
  refine V_iconst C dL_setShare_25 ?_
  exact V_ireturn C E dL_setShare_26 (by omega) (by omega) ⟨rfl, rfl, rfl, rfl⟩
theorem L_setShare_x1 (hG : GP G) (hGN : GN G) (hA : hasS S a (.inr (.inr (6, ks)))) {x1 x2 : Int} (hM : CtX G l yX8_setShare wsX8_setShare 7 [.ref a, .int (I32 x1), .int (I32 x2)] S n mu la xE1) : Ct G l yL_setShare wsL_setShare 9 1 6 [.ref a, .int (I32 x1), .int (I32 x2), .ref o] S n mu la (Lp S 1 mu la) := by
  refine Ct.ofH (cc := cL_setShare) (nL := 5) (ret := some .int) (hh := [(0, 10, 13, 24), (0, 10, 17, 13), (0, 10, 21, 18)]) [some (.ref a), some (.int (I32 x1)), some (.int (I32 x2)), some (.ref o), none] hG (by decide) rfl (Nat.le_of_ble_eq_true rfl) rfl ?_
  rintro X rfl rfl C ht hcl hsl E
  have hN := hGN _ C.pe.2.2
  refine V_aload_n C dL_setShare_0 rfl ?_
  refine V_iconst C dL_setShare_1 ?_
  refine V_aload_n C dL_setShare_2 rfl ?_
  refine V_iload_n C dL_setShare_3 rfl ?_
  refine V_iload_n C dL_setShare_4 rfl ?_
  refine V_callVC (nA := 2) C dL_setShare_5 hM gL_setShare_X8_setShare rfl hA rfl (by decide +kernel) rfl (by omega) (by decide) (Nat.le_of_ble_eq_true rfl) ⟨by omega, by omega⟩ rfl (name := xE1) [] ⟨0, 10, 13, 24⟩ [⟨0, 10, 17, 13⟩, ⟨0, 10, 21, 18⟩] ht ?_ (by decide) (by decide) (C.ts _ (by decide +kernel)) (cast_self hN.1.1) (fun q9 n9 => ?_)
  · exact fun _ h9 => absurd h9 List.not_mem_nil
  · refine V_astore C dL_setShare_13 rfl (by decide) ?_
    refine V_iconst C dL_setShare_15 ?_
    exact V_ireturn C E dL_setShare_16 (by omega) (by omega) ⟨rfl, rfl, rfl, rfl⟩
theorem L_setShare_x2 (hG : GP G) (hGN : GN G) (hA : hasS S a (.inr (.inr (6, ks)))) {x1 x2 : Int} (hM : CtX G l yX8_setShare wsX8_setShare 7 [.ref a, .int (I32 x1), .int (I32 x2)] S n mu la xE2) : Ct G l yL_setShare wsL_setShare 9 1 6 [.ref a, .int (I32 x1), .int (I32 x2), .ref o] S n mu la (Lp S 2 mu la) := by
  refine Ct.ofH (cc := cL_setShare) (nL := 5) (ret := some .int) (hh := [(0, 10, 13, 24), (0, 10, 17, 13), (0, 10, 21, 18)]) [some (.ref a), some (.int (I32 x1)), some (.int (I32 x2)), some (.ref o), none] hG (by decide) rfl (Nat.le_of_ble_eq_true rfl) rfl ?_
  rintro X rfl rfl C ht hcl hsl E
  have hN := hGN _ C.pe.2.2
  refine V_aload_n C dL_setShare_0 rfl ?_
  refine V_iconst C dL_setShare_1 ?_
  refine V_aload_n C dL_setShare_2 rfl ?_
  refine V_iload_n C dL_setShare_3 rfl ?_
  refine V_iload_n C dL_setShare_4 rfl ?_
  refine V_callVC (nA := 2) C dL_setShare_5 hM gL_setShare_X8_setShare rfl hA rfl (by decide +kernel) rfl (by omega) (by decide) (Nat.le_of_ble_eq_true rfl) ⟨by omega, by omega⟩ rfl (name := xE2) [⟨0, 10, 13, 24⟩] ⟨0, 10, 17, 13⟩ [⟨0, 10, 21, 18⟩] ht ?_ (by decide) (by decide) (C.ts _ (by decide +kernel)) (cast_self hN.2.1.1) (fun q9 n9 => ?_)
  · exact List.forall_mem_cons.mpr ⟨Or.inr ⟨by decide, xE1, C.ts _ (by decide +kernel), hN.2.1.1⟩, fun _ h9 => absurd h9 List.not_mem_nil⟩
  · refine V_astore C dL_setShare_17 rfl (by decide) ?_
    refine V_iconst C dL_setShare_19 ?_
    exact V_ireturn C E dL_setShare_20 (by omega) (by omega) ⟨rfl, rfl, rfl, rfl⟩
theorem L_setShare_x3 (hG : GP G) (hGN : GN G) (hA : hasS S a (.inr (.inr (6, ks)))) {x1 x2 : Int} (hM : CtX G l yX8_setShare wsX8_setShare 7 [.ref a, .int (I32 x1), .int (I32 x2)] S n mu la xE3) : Ct G l yL_setShare wsL_setShare 9 1 6 [.ref a, .int (I32 x1), .int (I32 x2), .ref o] S n mu la (Lp S 3 mu la) := by
  refine Ct.ofH (cc := cL_setShare) (nL := 5) (ret := some .int) (hh := [(0, 10, 13, 24), (0, 10, 17, 13), (0, 10, 21, 18)]) [some (.ref a), some (.int (I32 x1)), some (.int (I32 x2)), some (.ref o), none] hG (by decide) rfl (Nat.le_of_ble_eq_true rfl) rfl ?_
  rintro X rfl rfl C ht hcl hsl E
  have hN := hGN _ C.pe.2.2
  refine V_aload_n C dL_setShare_0 rfl ?_
  refine V_iconst C dL_setShare_1 ?_
  refine V_aload_n C dL_setShare_2 rfl ?_
  refine V_iload_n C dL_setShare_3 rfl ?_
  refine V_iload_n C dL_setShare_4 rfl ?_
  refine V_callVC (nA := 2) C dL_setShare_5 hM gL_setShare_X8_setShare rfl hA rfl (by decide +kernel) rfl (by omega) (by decide) (Nat.le_of_ble_eq_true rfl) ⟨by omega, by omega⟩ rfl (name := xE3) [⟨0, 10, 13, 24⟩, ⟨0, 10, 17, 13⟩] ⟨0, 10, 21, 18⟩ [] ht ?_ (by decide) (by decide) (C.ts _ (by decide +kernel)) (cast_self hN.2.2.1) (fun q9 n9 => ?_)
  · exact List.forall_mem_cons.mpr ⟨Or.inr ⟨by decide, xE1, C.ts _ (by decide +kernel), hN.2.2.1⟩, List.forall_mem_cons.mpr ⟨Or.inr ⟨by decide, xE2, C.ts _ (by decide +kernel), hN.2.2.2⟩, fun _ h9 => absurd h9 List.not_mem_nil⟩⟩
  · refine V_astore C dL_setShare_21 rfl (by decide) ?_
    refine V_iconst C dL_setShare_23 ?_
    exact V_ireturn C E dL_setShare_24 (by omega) (by omega) ⟨rfl, rfl, rfl, rfl⟩
theorem L_setShare (hG : GP G) (hGN : GN G) (hO : hasS S o (.inl (1, 1))) (hA : hasS S a (.inr (.inr (6, ks)))) (hfc : fc ≤ 8) {x1 x2 : Int} {f c : Int} (hc : (f = 0 ∧ c = 0) ∨ (f = 1 ∧ c = 1) ∨ (f = 2 ∧ c = 2) ∨ (f = 3 ∧ c = 3)) (h0 : f = 0 → Ct G l yX8_setShare wsX8_setShare fc 0 0 [.ref a, .int (I32 x1), .int (I32 x2)] S n mu la (Dt (some (.int (I32 v))) S n mu' la)) (h1 : f ≠ 0 → CtX G l yX8_setShare wsX8_setShare 7 [.ref a, .int (I32 x1), .int (I32 x2)] S n mu la (exn f)) :
    Ct G l yL_setShare wsL_setShare 9 1 6 [.ref a, .int (I32 x1), .int (I32 x2), .ref o] S n mu la (Lp S c (if f = 0 then mu' else mu) (if f = 0 then upl la o 0 (I32 v).toInt64 else la)) := by
  rcases hc with ⟨rfl, rfl⟩ | ⟨rfl, rfl⟩ | ⟨rfl, rfl⟩ | ⟨rfl, rfl⟩
  · exact L_setShare_k hG hO hA hfc (h0 rfl)
  · exact L_setShare_x1 hG hGN hA (h1 (by decide))
  · exact L_setShare_x2 hG hGN hA (h1 (by decide))
  · exact L_setShare_x3 hG hGN hA (h1 (by decide))
set_option maxRecDepth 20000 in
theorem ggL_drag_X8_drag : GoodIn wsL_drag wsX8_drag := goodIn_ca (goodIn_ca (goodIn_ca (goodIn_r _ [8, 9, 10, 11, 12, 13, 14, 7, 15, 16, 17, 18, 19, 20, 21, 22, 23, 24, 25, 26, 27, 28, 29, 30, 31, 32, 33, 34, 35, 36, 37, 38, 39, 40, 41, 42, 43, 44, 45, 46, 47, 48, 49, 50, 51, 52, 53, 54, 55, 56, 57, 58, 59, 60, 61, 62, 63, 64, 65, 66, 67, 68, 69, 70, 71, 72, 73, 74, 75, 76, 77, 78, 79, 80, 81, 82, 83, 84, 85, 86, 87, 88, 89, 90, 91, 92, 93, 94, 95, 96, 97, 98, 99, 100, 101, 102, 103, 104, 105, 106, 107, 108, 109, 110, 111, 112, 113, 114, 115, 116, 117, 118, 119, 120, 121, 122, 123, 124, 125, 126, 127, 128, 129, 130, 131, 132, 133, 134, 135, 136, 137, 138, 139, 140, 141, 142, 143, 144, 145, 146, 147, 148, 149, 150, 151, 152, 153, 154, 155, 156, 157, 158, 159, 160, 161, 162, 163, 164, 165, 166, 167, 168, 169, 170, 171, 172, 173, 174, 175, 176, 177, 178, 179, 180, 181, 182, 183, 184, 185, 186, 187, 188, 189, 190, 191, 192, 193, 194, 195, 196, 197, 198, 199, 200, 201, 202, 203, 204, 205, 206, 207, 208, 209, 210, 211, 212, 213, 214, 215, 216, 217, 218, 219, 220, 221, 222, 223, 224, 225, 226, 227, 228, 229, 230, 231, 232, 233, 234, 235, 236, 237, 238, 239, 240, 241, 242, 243, 244, 245, 246, 247, 248, 249, 250, 251, 252, 253, 254, 255, 256, 257, 258, 259, 260, 261, 262, 263, 264, 265, 266, 267, 268, 269, 270, 271, 272, 273, 274, 275, 276, 277, 278, 279, 280, 281, 282, 283, 284, 285, 286, 287, 288, 289, 290, 291, 292, 293, 294, 295, 296, 297, 298, 299, 300, 301, 302, 303, 304] (by decide +kernel) (by decide +kernel)) (goodIn_sub (fun _ h => List.mem_cons_of_mem _ (List.mem_append_left _ (List.mem_append_left _ (List.mem_append_right _ h)))) (by decide +kernel))) (goodIn_sub (fun _ h => List.mem_cons_of_mem _ (List.mem_append_left _ (List.mem_append_right _ h))) (by decide +kernel))) (goodIn_sub (fun _ h => List.mem_cons_of_mem _ (List.mem_append_right _ h)) (by decide +kernel))
set_option maxRecDepth 20000 in
theorem gL_drag_X8_drag : GoodIn wsL_drag (wsV RL 52 RX8 yX8_drag wsX8_drag) := goodIn_app (goodIn_of _ (by decide +kernel)) ggL_drag_X8_drag
theorem dL_drag_0 : decode cL_drag 0 = .ok (.aload_n 3, 1) := by decide +kernel
theorem dL_drag_1 : decode cL_drag 1 = .ok (.iconst 0, 1) := by decide +kernel
theorem dL_drag_2 : decode cL_drag 2 = .ok (.aload_n 0, 1) := by decide +kernel
theorem dL_drag_3 : decode cL_drag 3 = .ok (.iload_n 1, 1) := by decide +kernel
theorem dL_drag_4 : decode cL_drag 4 = .ok (.iload_n 2, 1) := by decide +kernel
theorem dL_drag_5 : decode cL_drag 5 = .ok (.invokevirtual 52, 3) := by decide +kernel
theorem dL_drag_8 : decode cL_drag 8 = .ok (.i2l, 1) := by decide +kernel
theorem dL_drag_9 : decode cL_drag 9 = .ok (.lastore, 1) := by decide +kernel
theorem dL_drag_10 : decode cL_drag 10 = .ok (.goto 15, 3) := by decide +kernel
theorem dL_drag_13 : decode cL_drag 13 = .ok (.astore 4, 2) := by decide +kernel
theorem dL_drag_15 : decode cL_drag 15 = .ok (.iconst 1, 1) := by decide +kernel
theorem dL_drag_16 : decode cL_drag 16 = .ok (.ireturn, 1) := by decide +kernel
theorem dL_drag_17 : decode cL_drag 17 = .ok (.astore 4, 2) := by decide +kernel
theorem dL_drag_19 : decode cL_drag 19 = .ok (.iconst 2, 1) := by decide +kernel
theorem dL_drag_20 : decode cL_drag 20 = .ok (.ireturn, 1) := by decide +kernel
theorem dL_drag_21 : decode cL_drag 21 = .ok (.astore 4, 2) := by decide +kernel
theorem dL_drag_23 : decode cL_drag 23 = .ok (.iconst 3, 1) := by decide +kernel
theorem dL_drag_24 : decode cL_drag 24 = .ok (.ireturn, 1) := by decide +kernel
theorem dL_drag_25 : decode cL_drag 25 = .ok (.iconst 0, 1) := by decide +kernel
theorem dL_drag_26 : decode cL_drag 26 = .ok (.ireturn, 1) := by decide +kernel
theorem L_drag_k (hG : GP G) (hO : hasS S o (.inl (1, 1))) (hA : hasS S a (.inr (.inr (6, ks)))) (hfc : fc ≤ 8) {x1 x2 : Int} (hM : Ct G l yX8_drag wsX8_drag fc 0 0 [.ref a, .int (I32 x1), .int (I32 x2)] S n mu la (Dt (some (.int (I32 v))) S n mu' la)) : Ct G l yL_drag wsL_drag 9 1 6 [.ref a, .int (I32 x1), .int (I32 x2), .ref o] S n mu la (Lp S 0 mu' (upl la o 0 (I32 v).toInt64)) := by
  refine Ct.ofH (cc := cL_drag) (nL := 5) (ret := some .int) (hh := [(0, 10, 13, 24), (0, 10, 17, 13), (0, 10, 21, 18)]) [some (.ref a), some (.int (I32 x1)), some (.int (I32 x2)), some (.ref o), none] hG (by decide) rfl (Nat.le_of_ble_eq_true rfl) rfl ?_
  rintro X rfl rfl C ht hcl hsl E
  refine V_aload_n C dL_drag_0 rfl ?_
  refine V_iconst C dL_drag_1 ?_
  refine V_aload_n C dL_drag_2 rfl ?_
  refine V_iload_n C dL_drag_3 rfl ?_
  refine V_iload_n C dL_drag_4 rfl ?_
  refine V_callVD (nA := 2) C dL_drag_5 hM gL_drag_X8_drag rfl hA rfl (by decide +kernel) rfl (by omega) (by decide) (Nat.le_of_ble_eq_true rfl) ⟨by omega, by omega⟩ rfl ?_
  refine V_i2l C dL_drag_8 ?_
  refine V_last C dL_drag_9 hO (by decide) (by decide) ?_
  refine V_goto C 25 dL_drag_10 (by decide) ?_
  refine V_iconst C dL_drag_25 ?_
  exact V_ireturn C E dL_drag_26 (by omega) (by omega) ⟨rfl, rfl, rfl, rfl⟩
theorem L_drag_x1 (hG : GP G) (hGN : GN G) (hA : hasS S a (.inr (.inr (6, ks)))) {x1 x2 : Int} (hM : CtX G l yX8_drag wsX8_drag 7 [.ref a, .int (I32 x1), .int (I32 x2)] S n mu la xE1) : Ct G l yL_drag wsL_drag 9 1 6 [.ref a, .int (I32 x1), .int (I32 x2), .ref o] S n mu la (Lp S 1 mu la) := by
  refine Ct.ofH (cc := cL_drag) (nL := 5) (ret := some .int) (hh := [(0, 10, 13, 24), (0, 10, 17, 13), (0, 10, 21, 18)]) [some (.ref a), some (.int (I32 x1)), some (.int (I32 x2)), some (.ref o), none] hG (by decide) rfl (Nat.le_of_ble_eq_true rfl) rfl ?_
  rintro X rfl rfl C ht hcl hsl E
  have hN := hGN _ C.pe.2.2
  refine V_aload_n C dL_drag_0 rfl ?_
  refine V_iconst C dL_drag_1 ?_
  refine V_aload_n C dL_drag_2 rfl ?_
  refine V_iload_n C dL_drag_3 rfl ?_
  refine V_iload_n C dL_drag_4 rfl ?_
  refine V_callVC (nA := 2) C dL_drag_5 hM gL_drag_X8_drag rfl hA rfl (by decide +kernel) rfl (by omega) (by decide) (Nat.le_of_ble_eq_true rfl) ⟨by omega, by omega⟩ rfl (name := xE1) [] ⟨0, 10, 13, 24⟩ [⟨0, 10, 17, 13⟩, ⟨0, 10, 21, 18⟩] ht ?_ (by decide) (by decide) (C.ts _ (by decide +kernel)) (cast_self hN.1.1) (fun q9 n9 => ?_)
  · exact fun _ h9 => absurd h9 List.not_mem_nil
  · refine V_astore C dL_drag_13 rfl (by decide) ?_
    refine V_iconst C dL_drag_15 ?_
    exact V_ireturn C E dL_drag_16 (by omega) (by omega) ⟨rfl, rfl, rfl, rfl⟩
theorem L_drag_x2 (hG : GP G) (hGN : GN G) (hA : hasS S a (.inr (.inr (6, ks)))) {x1 x2 : Int} (hM : CtX G l yX8_drag wsX8_drag 7 [.ref a, .int (I32 x1), .int (I32 x2)] S n mu la xE2) : Ct G l yL_drag wsL_drag 9 1 6 [.ref a, .int (I32 x1), .int (I32 x2), .ref o] S n mu la (Lp S 2 mu la) := by
  refine Ct.ofH (cc := cL_drag) (nL := 5) (ret := some .int) (hh := [(0, 10, 13, 24), (0, 10, 17, 13), (0, 10, 21, 18)]) [some (.ref a), some (.int (I32 x1)), some (.int (I32 x2)), some (.ref o), none] hG (by decide) rfl (Nat.le_of_ble_eq_true rfl) rfl ?_
  rintro X rfl rfl C ht hcl hsl E
  have hN := hGN _ C.pe.2.2
  refine V_aload_n C dL_drag_0 rfl ?_
  refine V_iconst C dL_drag_1 ?_
  refine V_aload_n C dL_drag_2 rfl ?_
  refine V_iload_n C dL_drag_3 rfl ?_
  refine V_iload_n C dL_drag_4 rfl ?_
  refine V_callVC (nA := 2) C dL_drag_5 hM gL_drag_X8_drag rfl hA rfl (by decide +kernel) rfl (by omega) (by decide) (Nat.le_of_ble_eq_true rfl) ⟨by omega, by omega⟩ rfl (name := xE2) [⟨0, 10, 13, 24⟩] ⟨0, 10, 17, 13⟩ [⟨0, 10, 21, 18⟩] ht ?_ (by decide) (by decide) (C.ts _ (by decide +kernel)) (cast_self hN.2.1.1) (fun q9 n9 => ?_)
  · exact List.forall_mem_cons.mpr ⟨Or.inr ⟨by decide, xE1, C.ts _ (by decide +kernel), hN.2.1.1⟩, fun _ h9 => absurd h9 List.not_mem_nil⟩
  · refine V_astore C dL_drag_17 rfl (by decide) ?_
    refine V_iconst C dL_drag_19 ?_
    exact V_ireturn C E dL_drag_20 (by omega) (by omega) ⟨rfl, rfl, rfl, rfl⟩
theorem L_drag_x3 (hG : GP G) (hGN : GN G) (hA : hasS S a (.inr (.inr (6, ks)))) {x1 x2 : Int} (hM : CtX G l yX8_drag wsX8_drag 7 [.ref a, .int (I32 x1), .int (I32 x2)] S n mu la xE3) : Ct G l yL_drag wsL_drag 9 1 6 [.ref a, .int (I32 x1), .int (I32 x2), .ref o] S n mu la (Lp S 3 mu la) := by
  refine Ct.ofH (cc := cL_drag) (nL := 5) (ret := some .int) (hh := [(0, 10, 13, 24), (0, 10, 17, 13), (0, 10, 21, 18)]) [some (.ref a), some (.int (I32 x1)), some (.int (I32 x2)), some (.ref o), none] hG (by decide) rfl (Nat.le_of_ble_eq_true rfl) rfl ?_
  rintro X rfl rfl C ht hcl hsl E
  have hN := hGN _ C.pe.2.2
  refine V_aload_n C dL_drag_0 rfl ?_
  refine V_iconst C dL_drag_1 ?_
  refine V_aload_n C dL_drag_2 rfl ?_
  refine V_iload_n C dL_drag_3 rfl ?_
  refine V_iload_n C dL_drag_4 rfl ?_
  refine V_callVC (nA := 2) C dL_drag_5 hM gL_drag_X8_drag rfl hA rfl (by decide +kernel) rfl (by omega) (by decide) (Nat.le_of_ble_eq_true rfl) ⟨by omega, by omega⟩ rfl (name := xE3) [⟨0, 10, 13, 24⟩, ⟨0, 10, 17, 13⟩] ⟨0, 10, 21, 18⟩ [] ht ?_ (by decide) (by decide) (C.ts _ (by decide +kernel)) (cast_self hN.2.2.1) (fun q9 n9 => ?_)
  · exact List.forall_mem_cons.mpr ⟨Or.inr ⟨by decide, xE1, C.ts _ (by decide +kernel), hN.2.2.1⟩, List.forall_mem_cons.mpr ⟨Or.inr ⟨by decide, xE2, C.ts _ (by decide +kernel), hN.2.2.2⟩, fun _ h9 => absurd h9 List.not_mem_nil⟩⟩
  · refine V_astore C dL_drag_21 rfl (by decide) ?_
    refine V_iconst C dL_drag_23 ?_
    exact V_ireturn C E dL_drag_24 (by omega) (by omega) ⟨rfl, rfl, rfl, rfl⟩
theorem L_drag (hG : GP G) (hGN : GN G) (hO : hasS S o (.inl (1, 1))) (hA : hasS S a (.inr (.inr (6, ks)))) (hfc : fc ≤ 8) {x1 x2 : Int} {f c : Int} (hc : (f = 0 ∧ c = 0) ∨ (f = 1 ∧ c = 1) ∨ (f = 2 ∧ c = 2) ∨ (f = 3 ∧ c = 3)) (h0 : f = 0 → Ct G l yX8_drag wsX8_drag fc 0 0 [.ref a, .int (I32 x1), .int (I32 x2)] S n mu la (Dt (some (.int (I32 v))) S n mu' la)) (h1 : f ≠ 0 → CtX G l yX8_drag wsX8_drag 7 [.ref a, .int (I32 x1), .int (I32 x2)] S n mu la (exn f)) :
    Ct G l yL_drag wsL_drag 9 1 6 [.ref a, .int (I32 x1), .int (I32 x2), .ref o] S n mu la (Lp S c (if f = 0 then mu' else mu) (if f = 0 then upl la o 0 (I32 v).toInt64 else la)) := by
  rcases hc with ⟨rfl, rfl⟩ | ⟨rfl, rfl⟩ | ⟨rfl, rfl⟩ | ⟨rfl, rfl⟩
  · exact L_drag_k hG hO hA hfc (h0 rfl)
  · exact L_drag_x1 hG hGN hA (h1 (by decide))
  · exact L_drag_x2 hG hGN hA (h1 (by decide))
  · exact L_drag_x3 hG hGN hA (h1 (by decide))
set_option maxRecDepth 20000 in
theorem ggL_save_X8_save : GoodIn wsL_save wsX8_save := goodIn_ca (goodIn_ca (goodIn_ca (goodIn_r _ [6, 7, 8, 9, 10, 5, 11, 12, 13, 14, 15, 16, 17, 18, 19, 20, 21, 22, 23, 24, 25, 26, 27, 28, 29, 30, 31, 32, 33, 34, 35, 36, 37, 38, 39, 40, 41, 42, 43, 44, 45, 46, 47, 48, 49, 50, 51, 52, 53, 54, 55, 56, 57, 58, 59, 60, 61, 62, 63, 64, 65, 66, 67, 68, 69, 70, 71, 72, 73, 74, 75, 76, 77, 78, 79, 80, 81, 82, 83, 84, 85, 86, 87, 88, 89, 90, 91, 92, 93, 94, 95, 96, 97, 98, 99, 100, 101, 102, 103, 104, 105, 106, 107, 108, 109, 110, 111, 112] (by decide +kernel) (by decide +kernel)) (goodIn_sub (fun _ h => List.mem_cons_of_mem _ (List.mem_append_left _ (List.mem_append_left _ (List.mem_append_right _ h)))) (by decide +kernel))) (goodIn_sub (fun _ h => List.mem_cons_of_mem _ (List.mem_append_left _ (List.mem_append_right _ h))) (by decide +kernel))) (goodIn_sub (fun _ h => List.mem_cons_of_mem _ (List.mem_append_right _ h)) (by decide +kernel))
set_option maxRecDepth 20000 in
theorem gL_save_X8_save : GoodIn wsL_save (wsV RL 55 RX8 yX8_save wsX8_save) := goodIn_app (goodIn_of _ (by decide +kernel)) ggL_save_X8_save
theorem dL_save_0 : decode cL_save 0 = .ok (.aload_n 2, 1) := by decide +kernel
theorem dL_save_1 : decode cL_save 1 = .ok (.iconst 0, 1) := by decide +kernel
theorem dL_save_2 : decode cL_save 2 = .ok (.aload_n 0, 1) := by decide +kernel
theorem dL_save_3 : decode cL_save 3 = .ok (.iload_n 1, 1) := by decide +kernel
theorem dL_save_4 : decode cL_save 4 = .ok (.invokevirtual 55, 3) := by decide +kernel
theorem dL_save_7 : decode cL_save 7 = .ok (.i2l, 1) := by decide +kernel
theorem dL_save_8 : decode cL_save 8 = .ok (.lastore, 1) := by decide +kernel
theorem dL_save_9 : decode cL_save 9 = .ok (.goto 6, 3) := by decide +kernel
theorem dL_save_12 : decode cL_save 12 = .ok (.astore_n 3, 1) := by decide +kernel
theorem dL_save_13 : decode cL_save 13 = .ok (.iconst 1, 1) := by decide +kernel
theorem dL_save_14 : decode cL_save 14 = .ok (.ireturn, 1) := by decide +kernel
theorem dL_save_15 : decode cL_save 15 = .ok (.iconst 0, 1) := by decide +kernel
theorem dL_save_16 : decode cL_save 16 = .ok (.ireturn, 1) := by decide +kernel
theorem L_save_k (hG : GP G) (hO : hasS S o (.inl (1, 1))) (hA : hasS S a (.inr (.inr (6, ks)))) (hfc : fc ≤ 8) {x1 : Int} (hM : Ct G l yX8_save wsX8_save fc 0 0 [.ref a, .int (I32 x1)] S n mu la (Dt (some (.int (I32 v))) S n mu' la)) : Ct G l yL_save wsL_save 9 1 6 [.ref a, .int (I32 x1), .ref o] S n mu la (Lp S 0 mu' (upl la o 0 (I32 v).toInt64)) := by
  refine Ct.ofH (cc := cL_save) (nL := 4) (ret := some .int) (hh := [(0, 9, 12, 13)]) [some (.ref a), some (.int (I32 x1)), some (.ref o), none] hG (by decide) rfl (Nat.le_of_ble_eq_true rfl) rfl ?_
  rintro X rfl rfl C ht hcl hsl E
  refine V_aload_n C dL_save_0 rfl ?_
  refine V_iconst C dL_save_1 ?_
  refine V_aload_n C dL_save_2 rfl ?_
  refine V_iload_n C dL_save_3 rfl ?_
  refine V_callVD (nA := 1) C dL_save_4 hM gL_save_X8_save rfl hA rfl (by decide +kernel) rfl (by omega) (by decide) (Nat.le_of_ble_eq_true rfl) ⟨by omega, by omega⟩ rfl ?_
  refine V_i2l C dL_save_7 ?_
  refine V_last C dL_save_8 hO (by decide) (by decide) ?_
  refine V_goto C 15 dL_save_9 (by decide) ?_
  refine V_iconst C dL_save_15 ?_
  exact V_ireturn C E dL_save_16 (by omega) (by omega) ⟨rfl, rfl, rfl, rfl⟩
theorem L_save_x2 (hG : GP G) (hGN : GN G) (hA : hasS S a (.inr (.inr (6, ks)))) {x1 : Int} (hM : CtX G l yX8_save wsX8_save 7 [.ref a, .int (I32 x1)] S n mu la xE2) : Ct G l yL_save wsL_save 9 1 6 [.ref a, .int (I32 x1), .ref o] S n mu la (Lp S 1 mu la) := by
  refine Ct.ofH (cc := cL_save) (nL := 4) (ret := some .int) (hh := [(0, 9, 12, 13)]) [some (.ref a), some (.int (I32 x1)), some (.ref o), none] hG (by decide) rfl (Nat.le_of_ble_eq_true rfl) rfl ?_
  rintro X rfl rfl C ht hcl hsl E
  have hN := hGN _ C.pe.2.2
  refine V_aload_n C dL_save_0 rfl ?_
  refine V_iconst C dL_save_1 ?_
  refine V_aload_n C dL_save_2 rfl ?_
  refine V_iload_n C dL_save_3 rfl ?_
  refine V_callVC (nA := 1) C dL_save_4 hM gL_save_X8_save rfl hA rfl (by decide +kernel) rfl (by omega) (by decide) (Nat.le_of_ble_eq_true rfl) ⟨by omega, by omega⟩ rfl (name := xE2) [] ⟨0, 9, 12, 13⟩ [] ht ?_ (by decide) (by decide) (C.ts _ (by decide +kernel)) (cast_self hN.2.1.1) (fun q9 n9 => ?_)
  · exact fun _ h9 => absurd h9 List.not_mem_nil
  · refine V_astore_n C dL_save_12 rfl (by decide) ?_
    refine V_iconst C dL_save_13 ?_
    exact V_ireturn C E dL_save_14 (by omega) (by omega) ⟨rfl, rfl, rfl, rfl⟩
theorem L_save (hG : GP G) (hGN : GN G) (hO : hasS S o (.inl (1, 1))) (hA : hasS S a (.inr (.inr (6, ks)))) (hfc : fc ≤ 8) {x1 : Int} {f c : Int} (hc : (f = 0 ∧ c = 0) ∨ (f = 2 ∧ c = 1)) (h0 : f = 0 → Ct G l yX8_save wsX8_save fc 0 0 [.ref a, .int (I32 x1)] S n mu la (Dt (some (.int (I32 v))) S n mu' la)) (h1 : f ≠ 0 → CtX G l yX8_save wsX8_save 7 [.ref a, .int (I32 x1)] S n mu la (exn f)) :
    Ct G l yL_save wsL_save 9 1 6 [.ref a, .int (I32 x1), .ref o] S n mu la (Lp S c (if f = 0 then mu' else mu) (if f = 0 then upl la o 0 (I32 v).toInt64 else la)) := by
  rcases hc with ⟨rfl, rfl⟩ | ⟨rfl, rfl⟩
  · exact L_save_k hG hO hA hfc (h0 rfl)
  · exact L_save_x2 hG hGN hA (h1 (by decide))
set_option maxRecDepth 20000 in
theorem ggL_bringBack_X8_bringBack : GoodIn wsL_bringBack wsX8_bringBack := goodIn_ca (goodIn_ca (goodIn_ca (goodIn_r _ [7, 8, 9, 10, 11, 12, 6, 13, 14, 15, 16, 17, 18, 19, 20, 21, 22, 23, 24, 25, 26, 27, 28, 29, 30, 31, 32, 33, 34, 35, 36, 37, 38, 39, 40, 41, 42, 43, 44, 45, 46, 47, 48, 49, 50, 51, 52, 53, 54, 55, 56, 57, 58, 59, 60, 61, 62, 63, 64, 65, 66, 67, 68, 69, 70, 71, 72, 73, 74, 75, 76, 77, 78, 79, 80, 81, 82, 83, 84, 85, 86, 87, 88, 89, 90, 91, 92, 93, 94, 95, 96, 97, 98, 99, 100, 101, 102, 103, 104, 105, 106, 107, 108, 109, 110, 111, 112, 113, 114, 115, 116, 117, 118, 119, 120, 121, 122, 123, 124, 125, 126, 127, 128, 129, 130, 131, 132, 133, 134, 135, 136, 137, 138, 139, 140, 141, 142, 143, 144, 145, 146, 147, 148, 149, 150, 151, 152, 153, 154, 155, 156, 157, 158, 159, 160, 161, 162, 163, 164, 165, 166, 167, 168, 169, 170, 171, 172, 173, 174, 175, 176, 177, 178, 179, 180, 181, 182, 183, 184, 185, 186, 187, 188, 189, 190, 191, 192, 193, 194, 195, 196, 197, 198, 199, 200, 201, 202, 203, 204, 205, 206, 207, 208, 209, 210, 211, 212, 213, 214, 215, 216, 217, 218, 219, 220, 221, 222, 223, 224, 225, 226, 227, 228, 229, 230, 231, 232, 233, 234, 235, 236, 237, 238, 239, 240, 241, 242, 243, 244, 245, 246, 247, 248, 249, 250, 251, 252, 253, 254, 255, 256, 257, 258, 259, 260, 261, 262, 263, 264, 265, 266, 267, 268, 269, 270, 271, 272, 273, 274, 275, 276, 277, 278, 279, 280, 281, 282, 283, 284, 285, 286, 287, 288] (by decide +kernel) (by decide +kernel)) (goodIn_sub (fun _ h => List.mem_cons_of_mem _ (List.mem_append_left _ (List.mem_append_left _ (List.mem_append_right _ h)))) (by decide +kernel))) (goodIn_sub (fun _ h => List.mem_cons_of_mem _ (List.mem_append_left _ (List.mem_append_right _ h))) (by decide +kernel))) (goodIn_sub (fun _ h => List.mem_cons_of_mem _ (List.mem_append_right _ h)) (by decide +kernel))
set_option maxRecDepth 20000 in
theorem gL_bringBack_X8_bringBack : GoodIn wsL_bringBack (wsV RL 58 RX8 yX8_bringBack wsX8_bringBack) := goodIn_app (goodIn_of _ (by decide +kernel)) ggL_bringBack_X8_bringBack
theorem dL_bringBack_0 : decode cL_bringBack 0 = .ok (.aload_n 2, 1) := by decide +kernel
theorem dL_bringBack_1 : decode cL_bringBack 1 = .ok (.iconst 0, 1) := by decide +kernel
theorem dL_bringBack_2 : decode cL_bringBack 2 = .ok (.aload_n 0, 1) := by decide +kernel
theorem dL_bringBack_3 : decode cL_bringBack 3 = .ok (.iload_n 1, 1) := by decide +kernel
theorem dL_bringBack_4 : decode cL_bringBack 4 = .ok (.invokevirtual 58, 3) := by decide +kernel
theorem dL_bringBack_7 : decode cL_bringBack 7 = .ok (.i2l, 1) := by decide +kernel
theorem dL_bringBack_8 : decode cL_bringBack 8 = .ok (.lastore, 1) := by decide +kernel
theorem dL_bringBack_9 : decode cL_bringBack 9 = .ok (.goto 9, 3) := by decide +kernel
theorem dL_bringBack_12 : decode cL_bringBack 12 = .ok (.astore_n 3, 1) := by decide +kernel
theorem dL_bringBack_13 : decode cL_bringBack 13 = .ok (.iconst 1, 1) := by decide +kernel
theorem dL_bringBack_14 : decode cL_bringBack 14 = .ok (.ireturn, 1) := by decide +kernel
theorem dL_bringBack_15 : decode cL_bringBack 15 = .ok (.astore_n 3, 1) := by decide +kernel
theorem dL_bringBack_16 : decode cL_bringBack 16 = .ok (.iconst 2, 1) := by decide +kernel
theorem dL_bringBack_17 : decode cL_bringBack 17 = .ok (.ireturn, 1) := by decide +kernel
theorem dL_bringBack_18 : decode cL_bringBack 18 = .ok (.iconst 0, 1) := by decide +kernel
theorem dL_bringBack_19 : decode cL_bringBack 19 = .ok (.ireturn, 1) := by decide +kernel
theorem L_bringBack_k (hG : GP G) (hO : hasS S o (.inl (1, 1))) (hA : hasS S a (.inr (.inr (6, ks)))) (hfc : fc ≤ 8) {x1 : Int} (hM : Ct G l yX8_bringBack wsX8_bringBack fc 0 0 [.ref a, .int (I32 x1)] S n mu la (Dt (some (.int (I32 v))) S n mu' la)) : Ct G l yL_bringBack wsL_bringBack 9 1 6 [.ref a, .int (I32 x1), .ref o] S n mu la (Lp S 0 mu' (upl la o 0 (I32 v).toInt64)) := by
  refine Ct.ofH (cc := cL_bringBack) (nL := 4) (ret := some .int) (hh := [(0, 9, 12, 13), (0, 9, 15, 18)]) [some (.ref a), some (.int (I32 x1)), some (.ref o), none] hG (by decide) rfl (Nat.le_of_ble_eq_true rfl) rfl ?_
  rintro X rfl rfl C ht hcl hsl E
  refine V_aload_n C dL_bringBack_0 rfl ?_
  refine V_iconst C dL_bringBack_1 ?_
  refine V_aload_n C dL_bringBack_2 rfl ?_
  refine V_iload_n C dL_bringBack_3 rfl ?_
  refine V_callVD (nA := 1) C dL_bringBack_4 hM gL_bringBack_X8_bringBack rfl hA rfl (by decide +kernel) rfl (by omega) (by decide) (Nat.le_of_ble_eq_true rfl) ⟨by omega, by omega⟩ rfl ?_
  refine V_i2l C dL_bringBack_7 ?_
  refine V_last C dL_bringBack_8 hO (by decide) (by decide) ?_
  refine V_goto C 18 dL_bringBack_9 (by decide) ?_
  refine V_iconst C dL_bringBack_18 ?_
  exact V_ireturn C E dL_bringBack_19 (by omega) (by omega) ⟨rfl, rfl, rfl, rfl⟩
theorem L_bringBack_x2 (hG : GP G) (hGN : GN G) (hA : hasS S a (.inr (.inr (6, ks)))) {x1 : Int} (hM : CtX G l yX8_bringBack wsX8_bringBack 7 [.ref a, .int (I32 x1)] S n mu la xE2) : Ct G l yL_bringBack wsL_bringBack 9 1 6 [.ref a, .int (I32 x1), .ref o] S n mu la (Lp S 1 mu la) := by
  refine Ct.ofH (cc := cL_bringBack) (nL := 4) (ret := some .int) (hh := [(0, 9, 12, 13), (0, 9, 15, 18)]) [some (.ref a), some (.int (I32 x1)), some (.ref o), none] hG (by decide) rfl (Nat.le_of_ble_eq_true rfl) rfl ?_
  rintro X rfl rfl C ht hcl hsl E
  have hN := hGN _ C.pe.2.2
  refine V_aload_n C dL_bringBack_0 rfl ?_
  refine V_iconst C dL_bringBack_1 ?_
  refine V_aload_n C dL_bringBack_2 rfl ?_
  refine V_iload_n C dL_bringBack_3 rfl ?_
  refine V_callVC (nA := 1) C dL_bringBack_4 hM gL_bringBack_X8_bringBack rfl hA rfl (by decide +kernel) rfl (by omega) (by decide) (Nat.le_of_ble_eq_true rfl) ⟨by omega, by omega⟩ rfl (name := xE2) [] ⟨0, 9, 12, 13⟩ [⟨0, 9, 15, 18⟩] ht ?_ (by decide) (by decide) (C.ts _ (by decide +kernel)) (cast_self hN.2.1.1) (fun q9 n9 => ?_)
  · exact fun _ h9 => absurd h9 List.not_mem_nil
  · refine V_astore_n C dL_bringBack_12 rfl (by decide) ?_
    refine V_iconst C dL_bringBack_13 ?_
    exact V_ireturn C E dL_bringBack_14 (by omega) (by omega) ⟨rfl, rfl, rfl, rfl⟩
theorem L_bringBack_x3 (hG : GP G) (hGN : GN G) (hA : hasS S a (.inr (.inr (6, ks)))) {x1 : Int} (hM : CtX G l yX8_bringBack wsX8_bringBack 7 [.ref a, .int (I32 x1)] S n mu la xE3) : Ct G l yL_bringBack wsL_bringBack 9 1 6 [.ref a, .int (I32 x1), .ref o] S n mu la (Lp S 2 mu la) := by
  refine Ct.ofH (cc := cL_bringBack) (nL := 4) (ret := some .int) (hh := [(0, 9, 12, 13), (0, 9, 15, 18)]) [some (.ref a), some (.int (I32 x1)), some (.ref o), none] hG (by decide) rfl (Nat.le_of_ble_eq_true rfl) rfl ?_
  rintro X rfl rfl C ht hcl hsl E
  have hN := hGN _ C.pe.2.2
  refine V_aload_n C dL_bringBack_0 rfl ?_
  refine V_iconst C dL_bringBack_1 ?_
  refine V_aload_n C dL_bringBack_2 rfl ?_
  refine V_iload_n C dL_bringBack_3 rfl ?_
  refine V_callVC (nA := 1) C dL_bringBack_4 hM gL_bringBack_X8_bringBack rfl hA rfl (by decide +kernel) rfl (by omega) (by decide) (Nat.le_of_ble_eq_true rfl) ⟨by omega, by omega⟩ rfl (name := xE3) [⟨0, 9, 12, 13⟩] ⟨0, 9, 15, 18⟩ [] ht ?_ (by decide) (by decide) (C.ts _ (by decide +kernel)) (cast_self hN.2.2.1) (fun q9 n9 => ?_)
  · exact List.forall_mem_cons.mpr ⟨Or.inr ⟨by decide, xE2, C.ts _ (by decide +kernel), hN.2.2.2⟩, fun _ h9 => absurd h9 List.not_mem_nil⟩
  · refine V_astore_n C dL_bringBack_15 rfl (by decide) ?_
    refine V_iconst C dL_bringBack_16 ?_
    exact V_ireturn C E dL_bringBack_17 (by omega) (by omega) ⟨rfl, rfl, rfl, rfl⟩
theorem L_bringBack (hG : GP G) (hGN : GN G) (hO : hasS S o (.inl (1, 1))) (hA : hasS S a (.inr (.inr (6, ks)))) (hfc : fc ≤ 8) {x1 : Int} {f c : Int} (hc : (f = 0 ∧ c = 0) ∨ (f = 2 ∧ c = 1) ∨ (f = 3 ∧ c = 2)) (h0 : f = 0 → Ct G l yX8_bringBack wsX8_bringBack fc 0 0 [.ref a, .int (I32 x1)] S n mu la (Dt (some (.int (I32 v))) S n mu' la)) (h1 : f ≠ 0 → CtX G l yX8_bringBack wsX8_bringBack 7 [.ref a, .int (I32 x1)] S n mu la (exn f)) :
    Ct G l yL_bringBack wsL_bringBack 9 1 6 [.ref a, .int (I32 x1), .ref o] S n mu la (Lp S c (if f = 0 then mu' else mu) (if f = 0 then upl la o 0 (I32 v).toInt64 else la)) := by
  rcases hc with ⟨rfl, rfl⟩ | ⟨rfl, rfl⟩ | ⟨rfl, rfl⟩
  · exact L_bringBack_k hG hO hA hfc (h0 rfl)
  · exact L_bringBack_x2 hG hGN hA (h1 (by decide))
  · exact L_bringBack_x3 hG hGN hA (h1 (by decide))
set_option maxRecDepth 20000 in
theorem ggL_pane_X8_pane : GoodIn wsL_pane wsX8_pane := goodIn_ca (goodIn_ca (goodIn_ca (goodIn_r _ [7, 8, 9, 10, 11, 6, 12, 13, 14, 15, 16, 17, 18, 19, 20, 21, 22, 23, 24, 25, 26, 27, 28, 29, 30, 31, 32, 33, 34, 35, 36, 37, 38, 39, 40, 41, 42, 43, 44, 45, 46, 47, 48, 49, 50, 51, 52, 53, 54, 55, 56, 57, 58, 59, 60, 61, 62, 63, 64, 65, 66, 67, 68, 69, 70, 71, 72, 73, 74, 75, 76, 77, 78, 79, 80, 81, 82, 83, 84, 85, 86, 87, 88, 89, 90, 91, 92, 93, 94, 95, 96, 97, 98, 99, 100, 101, 102, 103, 104, 105, 106, 107, 108, 109, 110, 111, 112, 113, 114, 115, 116, 117, 118, 119, 120, 121, 122, 123, 124, 125, 126, 127, 128, 129] (by decide +kernel) (by decide +kernel)) (goodIn_sub (fun _ h => List.mem_cons_of_mem _ (List.mem_append_left _ (List.mem_append_left _ (List.mem_append_right _ h)))) (by decide +kernel))) (goodIn_sub (fun _ h => List.mem_cons_of_mem _ (List.mem_append_left _ (List.mem_append_right _ h))) (by decide +kernel))) (goodIn_sub (fun _ h => List.mem_cons_of_mem _ (List.mem_append_right _ h)) (by decide +kernel))
set_option maxRecDepth 20000 in
theorem gL_pane_X8_pane : GoodIn wsL_pane (wsV RL 61 RX8 yX8_pane wsX8_pane) := goodIn_app (goodIn_of _ (by decide +kernel)) ggL_pane_X8_pane
theorem dL_pane_0 : decode cL_pane 0 = .ok (.aload_n 3, 1) := by decide +kernel
theorem dL_pane_1 : decode cL_pane 1 = .ok (.iconst 0, 1) := by decide +kernel
theorem dL_pane_2 : decode cL_pane 2 = .ok (.aload_n 0, 1) := by decide +kernel
theorem dL_pane_3 : decode cL_pane 3 = .ok (.iload_n 1, 1) := by decide +kernel
theorem dL_pane_4 : decode cL_pane 4 = .ok (.iload_n 2, 1) := by decide +kernel
theorem dL_pane_5 : decode cL_pane 5 = .ok (.invokevirtual 61, 3) := by decide +kernel
theorem dL_pane_8 : decode cL_pane 8 = .ok (.i2l, 1) := by decide +kernel
theorem dL_pane_9 : decode cL_pane 9 = .ok (.lastore, 1) := by decide +kernel
theorem dL_pane_10 : decode cL_pane 10 = .ok (.goto 11, 3) := by decide +kernel
theorem dL_pane_13 : decode cL_pane 13 = .ok (.astore 4, 2) := by decide +kernel
theorem dL_pane_15 : decode cL_pane 15 = .ok (.iconst 1, 1) := by decide +kernel
theorem dL_pane_16 : decode cL_pane 16 = .ok (.ireturn, 1) := by decide +kernel
theorem dL_pane_17 : decode cL_pane 17 = .ok (.astore 4, 2) := by decide +kernel
theorem dL_pane_19 : decode cL_pane 19 = .ok (.iconst 2, 1) := by decide +kernel
theorem dL_pane_20 : decode cL_pane 20 = .ok (.ireturn, 1) := by decide +kernel
theorem dL_pane_21 : decode cL_pane 21 = .ok (.iconst 0, 1) := by decide +kernel
theorem dL_pane_22 : decode cL_pane 22 = .ok (.ireturn, 1) := by decide +kernel
theorem L_pane_k (hG : GP G) (hO : hasS S o (.inl (1, 1))) (hA : hasS S a (.inr (.inr (6, ks)))) (hfc : fc ≤ 8) {x1 x2 : Int} (hM : Ct G l yX8_pane wsX8_pane fc 0 0 [.ref a, .int (I32 x1), .int (I32 x2)] S n mu la (Dt (some (.int (I32 v))) S n mu' la)) : Ct G l yL_pane wsL_pane 9 1 6 [.ref a, .int (I32 x1), .int (I32 x2), .ref o] S n mu la (Lp S 0 mu' (upl la o 0 (I32 v).toInt64)) := by
  refine Ct.ofH (cc := cL_pane) (nL := 5) (ret := some .int) (hh := [(0, 10, 13, 24), (0, 10, 17, 13)]) [some (.ref a), some (.int (I32 x1)), some (.int (I32 x2)), some (.ref o), none] hG (by decide) rfl (Nat.le_of_ble_eq_true rfl) rfl ?_
  rintro X rfl rfl C ht hcl hsl E
  refine V_aload_n C dL_pane_0 rfl ?_
  refine V_iconst C dL_pane_1 ?_
  refine V_aload_n C dL_pane_2 rfl ?_
  refine V_iload_n C dL_pane_3 rfl ?_
  refine V_iload_n C dL_pane_4 rfl ?_
  refine V_callVD (nA := 2) C dL_pane_5 hM gL_pane_X8_pane rfl hA rfl (by decide +kernel) rfl (by omega) (by decide) (Nat.le_of_ble_eq_true rfl) ⟨by omega, by omega⟩ rfl ?_
  refine V_i2l C dL_pane_8 ?_
  refine V_last C dL_pane_9 hO (by decide) (by decide) ?_
  refine V_goto C 21 dL_pane_10 (by decide) ?_
  refine V_iconst C dL_pane_21 ?_
  exact V_ireturn C E dL_pane_22 (by omega) (by omega) ⟨rfl, rfl, rfl, rfl⟩
theorem L_pane_x1 (hG : GP G) (hGN : GN G) (hA : hasS S a (.inr (.inr (6, ks)))) {x1 x2 : Int} (hM : CtX G l yX8_pane wsX8_pane 7 [.ref a, .int (I32 x1), .int (I32 x2)] S n mu la xE1) : Ct G l yL_pane wsL_pane 9 1 6 [.ref a, .int (I32 x1), .int (I32 x2), .ref o] S n mu la (Lp S 1 mu la) := by
  refine Ct.ofH (cc := cL_pane) (nL := 5) (ret := some .int) (hh := [(0, 10, 13, 24), (0, 10, 17, 13)]) [some (.ref a), some (.int (I32 x1)), some (.int (I32 x2)), some (.ref o), none] hG (by decide) rfl (Nat.le_of_ble_eq_true rfl) rfl ?_
  rintro X rfl rfl C ht hcl hsl E
  have hN := hGN _ C.pe.2.2
  refine V_aload_n C dL_pane_0 rfl ?_
  refine V_iconst C dL_pane_1 ?_
  refine V_aload_n C dL_pane_2 rfl ?_
  refine V_iload_n C dL_pane_3 rfl ?_
  refine V_iload_n C dL_pane_4 rfl ?_
  refine V_callVC (nA := 2) C dL_pane_5 hM gL_pane_X8_pane rfl hA rfl (by decide +kernel) rfl (by omega) (by decide) (Nat.le_of_ble_eq_true rfl) ⟨by omega, by omega⟩ rfl (name := xE1) [] ⟨0, 10, 13, 24⟩ [⟨0, 10, 17, 13⟩] ht ?_ (by decide) (by decide) (C.ts _ (by decide +kernel)) (cast_self hN.1.1) (fun q9 n9 => ?_)
  · exact fun _ h9 => absurd h9 List.not_mem_nil
  · refine V_astore C dL_pane_13 rfl (by decide) ?_
    refine V_iconst C dL_pane_15 ?_
    exact V_ireturn C E dL_pane_16 (by omega) (by omega) ⟨rfl, rfl, rfl, rfl⟩
theorem L_pane_x2 (hG : GP G) (hGN : GN G) (hA : hasS S a (.inr (.inr (6, ks)))) {x1 x2 : Int} (hM : CtX G l yX8_pane wsX8_pane 7 [.ref a, .int (I32 x1), .int (I32 x2)] S n mu la xE2) : Ct G l yL_pane wsL_pane 9 1 6 [.ref a, .int (I32 x1), .int (I32 x2), .ref o] S n mu la (Lp S 2 mu la) := by
  refine Ct.ofH (cc := cL_pane) (nL := 5) (ret := some .int) (hh := [(0, 10, 13, 24), (0, 10, 17, 13)]) [some (.ref a), some (.int (I32 x1)), some (.int (I32 x2)), some (.ref o), none] hG (by decide) rfl (Nat.le_of_ble_eq_true rfl) rfl ?_
  rintro X rfl rfl C ht hcl hsl E
  have hN := hGN _ C.pe.2.2
  refine V_aload_n C dL_pane_0 rfl ?_
  refine V_iconst C dL_pane_1 ?_
  refine V_aload_n C dL_pane_2 rfl ?_
  refine V_iload_n C dL_pane_3 rfl ?_
  refine V_iload_n C dL_pane_4 rfl ?_
  refine V_callVC (nA := 2) C dL_pane_5 hM gL_pane_X8_pane rfl hA rfl (by decide +kernel) rfl (by omega) (by decide) (Nat.le_of_ble_eq_true rfl) ⟨by omega, by omega⟩ rfl (name := xE2) [⟨0, 10, 13, 24⟩] ⟨0, 10, 17, 13⟩ [] ht ?_ (by decide) (by decide) (C.ts _ (by decide +kernel)) (cast_self hN.2.1.1) (fun q9 n9 => ?_)
  · exact List.forall_mem_cons.mpr ⟨Or.inr ⟨by decide, xE1, C.ts _ (by decide +kernel), hN.2.1.1⟩, fun _ h9 => absurd h9 List.not_mem_nil⟩
  · refine V_astore C dL_pane_17 rfl (by decide) ?_
    refine V_iconst C dL_pane_19 ?_
    exact V_ireturn C E dL_pane_20 (by omega) (by omega) ⟨rfl, rfl, rfl, rfl⟩
theorem L_pane (hG : GP G) (hGN : GN G) (hO : hasS S o (.inl (1, 1))) (hA : hasS S a (.inr (.inr (6, ks)))) (hfc : fc ≤ 8) {x1 x2 : Int} {f c : Int} (hc : (f = 0 ∧ c = 0) ∨ (f = 1 ∧ c = 1) ∨ (f = 2 ∧ c = 2)) (h0 : f = 0 → Ct G l yX8_pane wsX8_pane fc 0 0 [.ref a, .int (I32 x1), .int (I32 x2)] S n mu la (Dt (some (.int (I32 v))) S n mu' la)) (h1 : f ≠ 0 → CtX G l yX8_pane wsX8_pane 7 [.ref a, .int (I32 x1), .int (I32 x2)] S n mu la (exn f)) :
    Ct G l yL_pane wsL_pane 9 1 6 [.ref a, .int (I32 x1), .int (I32 x2), .ref o] S n mu la (Lp S c (if f = 0 then mu' else mu) (if f = 0 then upl la o 0 (I32 v).toInt64 else la)) := by
  rcases hc with ⟨rfl, rfl⟩ | ⟨rfl, rfl⟩ | ⟨rfl, rfl⟩
  · exact L_pane_k hG hO hA hfc (h0 rfl)
  · exact L_pane_x1 hG hGN hA (h1 (by decide))
  · exact L_pane_x2 hG hGN hA (h1 (by decide))
set_option maxRecDepth 20000 in
theorem ggL_split_X8_split : GoodIn wsL_split wsX8_split := goodIn_ca (goodIn_ca (goodIn_ca (goodIn_r _ [7, 8, 9, 10, 11, 6, 12, 13, 14, 15, 16, 17, 18, 19, 20, 21, 22, 23, 24, 25, 26, 27, 28, 29, 30, 31, 32, 33, 34, 35, 36, 37, 38, 39, 40, 41, 42, 43, 44, 45, 46, 47, 48, 49, 50, 51, 52, 53, 54, 55, 56, 57, 58, 59, 60, 61, 62, 63, 64, 65, 66, 67, 68, 69, 70, 71, 72, 73, 74, 75, 76, 77, 78, 79, 80, 81, 82, 83, 84, 85, 86, 87, 88, 89, 90, 91, 92, 93, 94, 95, 96, 97, 98, 99, 100, 101, 102, 103, 104, 105, 106, 107, 108] (by decide +kernel) (by decide +kernel)) (goodIn_sub (fun _ h => List.mem_cons_of_mem _ (List.mem_append_left _ (List.mem_append_left _ (List.mem_append_right _ h)))) (by decide +kernel))) (goodIn_sub (fun _ h => List.mem_cons_of_mem _ (List.mem_append_left _ (List.mem_append_right _ h))) (by decide +kernel))) (goodIn_sub (fun _ h => List.mem_cons_of_mem _ (List.mem_append_right _ h)) (by decide +kernel))
set_option maxRecDepth 20000 in
theorem gL_split_X8_split : GoodIn wsL_split (wsV RL 64 RX8 yX8_split wsX8_split) := goodIn_app (goodIn_of _ (by decide +kernel)) ggL_split_X8_split
theorem dL_split_0 : decode cL_split 0 = .ok (.aload 4, 2) := by decide +kernel
theorem dL_split_2 : decode cL_split 2 = .ok (.iconst 0, 1) := by decide +kernel
theorem dL_split_3 : decode cL_split 3 = .ok (.aload_n 0, 1) := by decide +kernel
theorem dL_split_4 : decode cL_split 4 = .ok (.iload_n 1, 1) := by decide +kernel
theorem dL_split_5 : decode cL_split 5 = .ok (.iload_n 2, 1) := by decide +kernel
theorem dL_split_6 : decode cL_split 6 = .ok (.iload_n 3, 1) := by decide +kernel
theorem dL_split_7 : decode cL_split 7 = .ok (.invokevirtual 64, 3) := by decide +kernel
theorem dL_split_10 : decode cL_split 10 = .ok (.i2l, 1) := by decide +kernel
theorem dL_split_11 : decode cL_split 11 = .ok (.lastore, 1) := by decide +kernel
theorem dL_split_12 : decode cL_split 12 = .ok (.goto 11, 3) := by decide +kernel
theorem dL_split_15 : decode cL_split 15 = .ok (.astore 5, 2) := by decide +kernel
theorem dL_split_17 : decode cL_split 17 = .ok (.iconst 1, 1) := by decide +kernel
theorem dL_split_18 : decode cL_split 18 = .ok (.ireturn, 1) := by decide +kernel
theorem dL_split_19 : decode cL_split 19 = .ok (.astore 5, 2) := by decide +kernel
theorem dL_split_21 : decode cL_split 21 = .ok (.iconst 2, 1) := by decide +kernel
theorem dL_split_22 : decode cL_split 22 = .ok (.ireturn, 1) := by decide +kernel
theorem dL_split_23 : decode cL_split 23 = .ok (.iconst 0, 1) := by decide +kernel
theorem dL_split_24 : decode cL_split 24 = .ok (.ireturn, 1) := by decide +kernel
theorem L_split_k (hG : GP G) (hO : hasS S o (.inl (1, 1))) (hA : hasS S a (.inr (.inr (6, ks)))) (hfc : fc ≤ 8) {x1 x2 x3 : Int} (hM : Ct G l yX8_split wsX8_split fc 0 0 [.ref a, .int (I32 x1), .int (I32 x2), .int (I32 x3)] S n mu la (Dt (some (.int (I32 v))) S n mu' la)) : Ct G l yL_split wsL_split 9 1 6 [.ref a, .int (I32 x1), .int (I32 x2), .int (I32 x3), .ref o] S n mu la (Lp S 0 mu' (upl la o 0 (I32 v).toInt64)) := by
  refine Ct.ofH (cc := cL_split) (nL := 6) (ret := some .int) (hh := [(0, 12, 15, 24), (0, 12, 19, 13)]) [some (.ref a), some (.int (I32 x1)), some (.int (I32 x2)), some (.int (I32 x3)), some (.ref o), none] hG (by decide) rfl (Nat.le_of_ble_eq_true rfl) rfl ?_
  rintro X rfl rfl C ht hcl hsl E
  refine V_aload C dL_split_0 rfl ?_
  refine V_iconst C dL_split_2 ?_
  refine V_aload_n C dL_split_3 rfl ?_
  refine V_iload_n C dL_split_4 rfl ?_
  refine V_iload_n C dL_split_5 rfl ?_
  refine V_iload_n C dL_split_6 rfl ?_
  refine V_callVD (nA := 3) C dL_split_7 hM gL_split_X8_split rfl hA rfl (by decide +kernel) rfl (by omega) (by decide) (Nat.le_of_ble_eq_true rfl) ⟨by omega, by omega⟩ rfl ?_
  refine V_i2l C dL_split_10 ?_
  refine V_last C dL_split_11 hO (by decide) (by decide) ?_
  refine V_goto C 23 dL_split_12 (by decide) ?_
  refine V_iconst C dL_split_23 ?_
  exact V_ireturn C E dL_split_24 (by omega) (by omega) ⟨rfl, rfl, rfl, rfl⟩
theorem L_split_x1 (hG : GP G) (hGN : GN G) (hA : hasS S a (.inr (.inr (6, ks)))) {x1 x2 x3 : Int} (hM : CtX G l yX8_split wsX8_split 7 [.ref a, .int (I32 x1), .int (I32 x2), .int (I32 x3)] S n mu la xE1) : Ct G l yL_split wsL_split 9 1 6 [.ref a, .int (I32 x1), .int (I32 x2), .int (I32 x3), .ref o] S n mu la (Lp S 1 mu la) := by
  refine Ct.ofH (cc := cL_split) (nL := 6) (ret := some .int) (hh := [(0, 12, 15, 24), (0, 12, 19, 13)]) [some (.ref a), some (.int (I32 x1)), some (.int (I32 x2)), some (.int (I32 x3)), some (.ref o), none] hG (by decide) rfl (Nat.le_of_ble_eq_true rfl) rfl ?_
  rintro X rfl rfl C ht hcl hsl E
  have hN := hGN _ C.pe.2.2
  refine V_aload C dL_split_0 rfl ?_
  refine V_iconst C dL_split_2 ?_
  refine V_aload_n C dL_split_3 rfl ?_
  refine V_iload_n C dL_split_4 rfl ?_
  refine V_iload_n C dL_split_5 rfl ?_
  refine V_iload_n C dL_split_6 rfl ?_
  refine V_callVC (nA := 3) C dL_split_7 hM gL_split_X8_split rfl hA rfl (by decide +kernel) rfl (by omega) (by decide) (Nat.le_of_ble_eq_true rfl) ⟨by omega, by omega⟩ rfl (name := xE1) [] ⟨0, 12, 15, 24⟩ [⟨0, 12, 19, 13⟩] ht ?_ (by decide) (by decide) (C.ts _ (by decide +kernel)) (cast_self hN.1.1) (fun q9 n9 => ?_)
  · exact fun _ h9 => absurd h9 List.not_mem_nil
  · refine V_astore C dL_split_15 rfl (by decide) ?_
    refine V_iconst C dL_split_17 ?_
    exact V_ireturn C E dL_split_18 (by omega) (by omega) ⟨rfl, rfl, rfl, rfl⟩
theorem L_split_x2 (hG : GP G) (hGN : GN G) (hA : hasS S a (.inr (.inr (6, ks)))) {x1 x2 x3 : Int} (hM : CtX G l yX8_split wsX8_split 7 [.ref a, .int (I32 x1), .int (I32 x2), .int (I32 x3)] S n mu la xE2) : Ct G l yL_split wsL_split 9 1 6 [.ref a, .int (I32 x1), .int (I32 x2), .int (I32 x3), .ref o] S n mu la (Lp S 2 mu la) := by
  refine Ct.ofH (cc := cL_split) (nL := 6) (ret := some .int) (hh := [(0, 12, 15, 24), (0, 12, 19, 13)]) [some (.ref a), some (.int (I32 x1)), some (.int (I32 x2)), some (.int (I32 x3)), some (.ref o), none] hG (by decide) rfl (Nat.le_of_ble_eq_true rfl) rfl ?_
  rintro X rfl rfl C ht hcl hsl E
  have hN := hGN _ C.pe.2.2
  refine V_aload C dL_split_0 rfl ?_
  refine V_iconst C dL_split_2 ?_
  refine V_aload_n C dL_split_3 rfl ?_
  refine V_iload_n C dL_split_4 rfl ?_
  refine V_iload_n C dL_split_5 rfl ?_
  refine V_iload_n C dL_split_6 rfl ?_
  refine V_callVC (nA := 3) C dL_split_7 hM gL_split_X8_split rfl hA rfl (by decide +kernel) rfl (by omega) (by decide) (Nat.le_of_ble_eq_true rfl) ⟨by omega, by omega⟩ rfl (name := xE2) [⟨0, 12, 15, 24⟩] ⟨0, 12, 19, 13⟩ [] ht ?_ (by decide) (by decide) (C.ts _ (by decide +kernel)) (cast_self hN.2.1.1) (fun q9 n9 => ?_)
  · exact List.forall_mem_cons.mpr ⟨Or.inr ⟨by decide, xE1, C.ts _ (by decide +kernel), hN.2.1.1⟩, fun _ h9 => absurd h9 List.not_mem_nil⟩
  · refine V_astore C dL_split_19 rfl (by decide) ?_
    refine V_iconst C dL_split_21 ?_
    exact V_ireturn C E dL_split_22 (by omega) (by omega) ⟨rfl, rfl, rfl, rfl⟩
theorem L_split (hG : GP G) (hGN : GN G) (hO : hasS S o (.inl (1, 1))) (hA : hasS S a (.inr (.inr (6, ks)))) (hfc : fc ≤ 8) {x1 x2 x3 : Int} {f c : Int} (hc : (f = 0 ∧ c = 0) ∨ (f = 1 ∧ c = 1) ∨ (f = 2 ∧ c = 2)) (h0 : f = 0 → Ct G l yX8_split wsX8_split fc 0 0 [.ref a, .int (I32 x1), .int (I32 x2), .int (I32 x3)] S n mu la (Dt (some (.int (I32 v))) S n mu' la)) (h1 : f ≠ 0 → CtX G l yX8_split wsX8_split 7 [.ref a, .int (I32 x1), .int (I32 x2), .int (I32 x3)] S n mu la (exn f)) :
    Ct G l yL_split wsL_split 9 1 6 [.ref a, .int (I32 x1), .int (I32 x2), .int (I32 x3), .ref o] S n mu la (Lp S c (if f = 0 then mu' else mu) (if f = 0 then upl la o 0 (I32 v).toInt64 else la)) := by
  rcases hc with ⟨rfl, rfl⟩ | ⟨rfl, rfl⟩ | ⟨rfl, rfl⟩
  · exact L_split_k hG hO hA hfc (h0 rfl)
  · exact L_split_x1 hG hGN hA (h1 (by decide))
  · exact L_split_x2 hG hGN hA (h1 (by decide))
set_option maxRecDepth 20000 in
theorem ggL_paneAt_X8_paneAt : GoodIn wsL_paneAt wsX8_paneAt := goodIn_ca (goodIn_ca (goodIn_ca (goodIn_r _ [6, 7, 8, 9, 10, 5, 11, 12, 13, 14, 15, 16, 17, 18, 19, 20, 21, 22, 23, 24, 25, 26, 27, 28, 29, 30, 31, 32, 33, 34, 35, 36, 37, 38, 39, 40, 41, 42, 43, 44, 45, 46, 47, 48, 49, 50, 51, 52, 53, 54, 55, 56, 57, 58, 59, 60, 61, 62, 63, 64, 65, 66, 67, 68, 69, 70, 71, 72, 73, 74, 75, 76, 77, 78, 79, 80, 81, 82, 83, 84, 85, 86, 87, 88, 89, 90, 91, 92, 93] (by decide +kernel) (by decide +kernel)) (goodIn_sub (fun _ h => List.mem_cons_of_mem _ (List.mem_append_left _ (List.mem_append_left _ (List.mem_append_right _ h)))) (by decide +kernel))) (goodIn_sub (fun _ h => List.mem_cons_of_mem _ (List.mem_append_left _ (List.mem_append_right _ h))) (by decide +kernel))) (goodIn_sub (fun _ h => List.mem_cons_of_mem _ (List.mem_append_right _ h)) (by decide +kernel))
set_option maxRecDepth 20000 in
theorem gL_paneAt_X8_paneAt : GoodIn wsL_paneAt (wsV RL 67 RX8 yX8_paneAt wsX8_paneAt) := goodIn_app (goodIn_of _ (by decide +kernel)) ggL_paneAt_X8_paneAt
theorem dL_paneAt_0 : decode cL_paneAt 0 = .ok (.aload_n 3, 1) := by decide +kernel
theorem dL_paneAt_1 : decode cL_paneAt 1 = .ok (.iconst 0, 1) := by decide +kernel
theorem dL_paneAt_2 : decode cL_paneAt 2 = .ok (.aload_n 0, 1) := by decide +kernel
theorem dL_paneAt_3 : decode cL_paneAt 3 = .ok (.iload_n 1, 1) := by decide +kernel
theorem dL_paneAt_4 : decode cL_paneAt 4 = .ok (.iload_n 2, 1) := by decide +kernel
theorem dL_paneAt_5 : decode cL_paneAt 5 = .ok (.invokevirtual 67, 3) := by decide +kernel
theorem dL_paneAt_8 : decode cL_paneAt 8 = .ok (.i2l, 1) := by decide +kernel
theorem dL_paneAt_9 : decode cL_paneAt 9 = .ok (.lastore, 1) := by decide +kernel
theorem dL_paneAt_10 : decode cL_paneAt 10 = .ok (.goto 7, 3) := by decide +kernel
theorem dL_paneAt_13 : decode cL_paneAt 13 = .ok (.astore 4, 2) := by decide +kernel
theorem dL_paneAt_15 : decode cL_paneAt 15 = .ok (.iconst 1, 1) := by decide +kernel
theorem dL_paneAt_16 : decode cL_paneAt 16 = .ok (.ireturn, 1) := by decide +kernel
theorem dL_paneAt_17 : decode cL_paneAt 17 = .ok (.iconst 0, 1) := by decide +kernel
theorem dL_paneAt_18 : decode cL_paneAt 18 = .ok (.ireturn, 1) := by decide +kernel
theorem L_paneAt_k (hG : GP G) (hO : hasS S o (.inl (1, 1))) (hA : hasS S a (.inr (.inr (6, ks)))) (hfc : fc ≤ 8) {x1 x2 : Int} (hM : Ct G l yX8_paneAt wsX8_paneAt fc 0 0 [.ref a, .int (I32 x1), .int (I32 x2)] S n mu la (Dt (some (.int (I32 v))) S n mu' la)) : Ct G l yL_paneAt wsL_paneAt 9 1 6 [.ref a, .int (I32 x1), .int (I32 x2), .ref o] S n mu la (Lp S 0 mu' (upl la o 0 (I32 v).toInt64)) := by
  refine Ct.ofH (cc := cL_paneAt) (nL := 5) (ret := some .int) (hh := [(0, 10, 13, 24)]) [some (.ref a), some (.int (I32 x1)), some (.int (I32 x2)), some (.ref o), none] hG (by decide) rfl (Nat.le_of_ble_eq_true rfl) rfl ?_
  rintro X rfl rfl C ht hcl hsl E
  refine V_aload_n C dL_paneAt_0 rfl ?_
  refine V_iconst C dL_paneAt_1 ?_
  refine V_aload_n C dL_paneAt_2 rfl ?_
  refine V_iload_n C dL_paneAt_3 rfl ?_
  refine V_iload_n C dL_paneAt_4 rfl ?_
  refine V_callVD (nA := 2) C dL_paneAt_5 hM gL_paneAt_X8_paneAt rfl hA rfl (by decide +kernel) rfl (by omega) (by decide) (Nat.le_of_ble_eq_true rfl) ⟨by omega, by omega⟩ rfl ?_
  refine V_i2l C dL_paneAt_8 ?_
  refine V_last C dL_paneAt_9 hO (by decide) (by decide) ?_
  refine V_goto C 17 dL_paneAt_10 (by decide) ?_
  refine V_iconst C dL_paneAt_17 ?_
  exact V_ireturn C E dL_paneAt_18 (by omega) (by omega) ⟨rfl, rfl, rfl, rfl⟩
theorem L_paneAt_x1 (hG : GP G) (hGN : GN G) (hA : hasS S a (.inr (.inr (6, ks)))) {x1 x2 : Int} (hM : CtX G l yX8_paneAt wsX8_paneAt 7 [.ref a, .int (I32 x1), .int (I32 x2)] S n mu la xE1) : Ct G l yL_paneAt wsL_paneAt 9 1 6 [.ref a, .int (I32 x1), .int (I32 x2), .ref o] S n mu la (Lp S 1 mu la) := by
  refine Ct.ofH (cc := cL_paneAt) (nL := 5) (ret := some .int) (hh := [(0, 10, 13, 24)]) [some (.ref a), some (.int (I32 x1)), some (.int (I32 x2)), some (.ref o), none] hG (by decide) rfl (Nat.le_of_ble_eq_true rfl) rfl ?_
  rintro X rfl rfl C ht hcl hsl E
  have hN := hGN _ C.pe.2.2
  refine V_aload_n C dL_paneAt_0 rfl ?_
  refine V_iconst C dL_paneAt_1 ?_
  refine V_aload_n C dL_paneAt_2 rfl ?_
  refine V_iload_n C dL_paneAt_3 rfl ?_
  refine V_iload_n C dL_paneAt_4 rfl ?_
  refine V_callVC (nA := 2) C dL_paneAt_5 hM gL_paneAt_X8_paneAt rfl hA rfl (by decide +kernel) rfl (by omega) (by decide) (Nat.le_of_ble_eq_true rfl) ⟨by omega, by omega⟩ rfl (name := xE1) [] ⟨0, 10, 13, 24⟩ [] ht ?_ (by decide) (by decide) (C.ts _ (by decide +kernel)) (cast_self hN.1.1) (fun q9 n9 => ?_)
  · exact fun _ h9 => absurd h9 List.not_mem_nil
  · refine V_astore C dL_paneAt_13 rfl (by decide) ?_
    refine V_iconst C dL_paneAt_15 ?_
    exact V_ireturn C E dL_paneAt_16 (by omega) (by omega) ⟨rfl, rfl, rfl, rfl⟩
theorem L_paneAt (hG : GP G) (hGN : GN G) (hO : hasS S o (.inl (1, 1))) (hA : hasS S a (.inr (.inr (6, ks)))) (hfc : fc ≤ 8) {x1 x2 : Int} {f c : Int} (hc : (f = 0 ∧ c = 0) ∨ (f = 1 ∧ c = 1)) (h0 : f = 0 → Ct G l yX8_paneAt wsX8_paneAt fc 0 0 [.ref a, .int (I32 x1), .int (I32 x2)] S n mu la (Dt (some (.int (I32 v))) S n mu' la)) (h1 : f ≠ 0 → CtX G l yX8_paneAt wsX8_paneAt 7 [.ref a, .int (I32 x1), .int (I32 x2)] S n mu la (exn f)) :
    Ct G l yL_paneAt wsL_paneAt 9 1 6 [.ref a, .int (I32 x1), .int (I32 x2), .ref o] S n mu la (Lp S c (if f = 0 then mu' else mu) (if f = 0 then upl la o 0 (I32 v).toInt64 else la)) := by
  rcases hc with ⟨rfl, rfl⟩ | ⟨rfl, rfl⟩
  · exact L_paneAt_k hG hO hA hfc (h0 rfl)
  · exact L_paneAt_x1 hG hGN hA (h1 (by decide))
set_option maxRecDepth 20000 in
theorem ggL_tab_X8_tab : GoodIn wsL_tab wsX8_tab := goodIn_ca (goodIn_ca (goodIn_ca (goodIn_r _ [7, 8, 9, 10, 11, 6, 12, 13, 14, 15, 16, 17, 18, 19, 20, 21, 22, 23, 24, 25, 26, 27, 28, 29, 30, 31, 32, 33, 34, 35, 36, 37, 38, 39, 40, 41, 42, 43, 44, 45, 46, 47, 48, 49, 50, 51, 52, 53, 54, 55, 56, 57, 58] (by decide +kernel) (by decide +kernel)) (goodIn_sub (fun _ h => List.mem_cons_of_mem _ (List.mem_append_left _ (List.mem_append_left _ (List.mem_append_right _ h)))) (by decide +kernel))) (goodIn_sub (fun _ h => List.mem_cons_of_mem _ (List.mem_append_left _ (List.mem_append_right _ h))) (by decide +kernel))) (goodIn_sub (fun _ h => List.mem_cons_of_mem _ (List.mem_append_right _ h)) (by decide +kernel))
set_option maxRecDepth 20000 in
theorem gL_tab_X8_tab : GoodIn wsL_tab (wsV RL 70 RX8 yX8_tab wsX8_tab) := goodIn_app (goodIn_of _ (by decide +kernel)) ggL_tab_X8_tab
theorem dL_tab_0 : decode cL_tab 0 = .ok (.aload_n 3, 1) := by decide +kernel
theorem dL_tab_1 : decode cL_tab 1 = .ok (.iconst 0, 1) := by decide +kernel
theorem dL_tab_2 : decode cL_tab 2 = .ok (.aload_n 0, 1) := by decide +kernel
theorem dL_tab_3 : decode cL_tab 3 = .ok (.iload_n 1, 1) := by decide +kernel
theorem dL_tab_4 : decode cL_tab 4 = .ok (.iload_n 2, 1) := by decide +kernel
theorem dL_tab_5 : decode cL_tab 5 = .ok (.invokevirtual 70, 3) := by decide +kernel
theorem dL_tab_8 : decode cL_tab 8 = .ok (.i2l, 1) := by decide +kernel
theorem dL_tab_9 : decode cL_tab 9 = .ok (.lastore, 1) := by decide +kernel
theorem dL_tab_10 : decode cL_tab 10 = .ok (.goto 11, 3) := by decide +kernel
theorem dL_tab_13 : decode cL_tab 13 = .ok (.astore 4, 2) := by decide +kernel
theorem dL_tab_15 : decode cL_tab 15 = .ok (.iconst 1, 1) := by decide +kernel
theorem dL_tab_16 : decode cL_tab 16 = .ok (.ireturn, 1) := by decide +kernel
theorem dL_tab_17 : decode cL_tab 17 = .ok (.astore 4, 2) := by decide +kernel
theorem dL_tab_19 : decode cL_tab 19 = .ok (.iconst 2, 1) := by decide +kernel
theorem dL_tab_20 : decode cL_tab 20 = .ok (.ireturn, 1) := by decide +kernel
theorem dL_tab_21 : decode cL_tab 21 = .ok (.iconst 0, 1) := by decide +kernel
theorem dL_tab_22 : decode cL_tab 22 = .ok (.ireturn, 1) := by decide +kernel
theorem L_tab_k (hG : GP G) (hO : hasS S o (.inl (1, 1))) (hA : hasS S a (.inr (.inr (6, ks)))) (hfc : fc ≤ 8) {x1 x2 : Int} (hM : Ct G l yX8_tab wsX8_tab fc 0 0 [.ref a, .int (I32 x1), .int (I32 x2)] S n mu la (Dt (some (.int (I32 v))) S n mu' la)) : Ct G l yL_tab wsL_tab 9 1 6 [.ref a, .int (I32 x1), .int (I32 x2), .ref o] S n mu la (Lp S 0 mu' (upl la o 0 (I32 v).toInt64)) := by
  refine Ct.ofH (cc := cL_tab) (nL := 5) (ret := some .int) (hh := [(0, 10, 13, 24), (0, 10, 17, 13)]) [some (.ref a), some (.int (I32 x1)), some (.int (I32 x2)), some (.ref o), none] hG (by decide) rfl (Nat.le_of_ble_eq_true rfl) rfl ?_
  rintro X rfl rfl C ht hcl hsl E
  refine V_aload_n C dL_tab_0 rfl ?_
  refine V_iconst C dL_tab_1 ?_
  refine V_aload_n C dL_tab_2 rfl ?_
  refine V_iload_n C dL_tab_3 rfl ?_
  refine V_iload_n C dL_tab_4 rfl ?_
  refine V_callVD (nA := 2) C dL_tab_5 hM gL_tab_X8_tab rfl hA rfl (by decide +kernel) rfl (by omega) (by decide) (Nat.le_of_ble_eq_true rfl) ⟨by omega, by omega⟩ rfl ?_
  refine V_i2l C dL_tab_8 ?_
  refine V_last C dL_tab_9 hO (by decide) (by decide) ?_
  refine V_goto C 21 dL_tab_10 (by decide) ?_
  refine V_iconst C dL_tab_21 ?_
  exact V_ireturn C E dL_tab_22 (by omega) (by omega) ⟨rfl, rfl, rfl, rfl⟩
theorem L_tab_x1 (hG : GP G) (hGN : GN G) (hA : hasS S a (.inr (.inr (6, ks)))) {x1 x2 : Int} (hM : CtX G l yX8_tab wsX8_tab 7 [.ref a, .int (I32 x1), .int (I32 x2)] S n mu la xE1) : Ct G l yL_tab wsL_tab 9 1 6 [.ref a, .int (I32 x1), .int (I32 x2), .ref o] S n mu la (Lp S 1 mu la) := by
  refine Ct.ofH (cc := cL_tab) (nL := 5) (ret := some .int) (hh := [(0, 10, 13, 24), (0, 10, 17, 13)]) [some (.ref a), some (.int (I32 x1)), some (.int (I32 x2)), some (.ref o), none] hG (by decide) rfl (Nat.le_of_ble_eq_true rfl) rfl ?_
  rintro X rfl rfl C ht hcl hsl E
  have hN := hGN _ C.pe.2.2
  refine V_aload_n C dL_tab_0 rfl ?_
  refine V_iconst C dL_tab_1 ?_
  refine V_aload_n C dL_tab_2 rfl ?_
  refine V_iload_n C dL_tab_3 rfl ?_
  refine V_iload_n C dL_tab_4 rfl ?_
  refine V_callVC (nA := 2) C dL_tab_5 hM gL_tab_X8_tab rfl hA rfl (by decide +kernel) rfl (by omega) (by decide) (Nat.le_of_ble_eq_true rfl) ⟨by omega, by omega⟩ rfl (name := xE1) [] ⟨0, 10, 13, 24⟩ [⟨0, 10, 17, 13⟩] ht ?_ (by decide) (by decide) (C.ts _ (by decide +kernel)) (cast_self hN.1.1) (fun q9 n9 => ?_)
  · exact fun _ h9 => absurd h9 List.not_mem_nil
  · refine V_astore C dL_tab_13 rfl (by decide) ?_
    refine V_iconst C dL_tab_15 ?_
    exact V_ireturn C E dL_tab_16 (by omega) (by omega) ⟨rfl, rfl, rfl, rfl⟩
theorem L_tab_x2 (hG : GP G) (hGN : GN G) (hA : hasS S a (.inr (.inr (6, ks)))) {x1 x2 : Int} (hM : CtX G l yX8_tab wsX8_tab 7 [.ref a, .int (I32 x1), .int (I32 x2)] S n mu la xE2) : Ct G l yL_tab wsL_tab 9 1 6 [.ref a, .int (I32 x1), .int (I32 x2), .ref o] S n mu la (Lp S 2 mu la) := by
  refine Ct.ofH (cc := cL_tab) (nL := 5) (ret := some .int) (hh := [(0, 10, 13, 24), (0, 10, 17, 13)]) [some (.ref a), some (.int (I32 x1)), some (.int (I32 x2)), some (.ref o), none] hG (by decide) rfl (Nat.le_of_ble_eq_true rfl) rfl ?_
  rintro X rfl rfl C ht hcl hsl E
  have hN := hGN _ C.pe.2.2
  refine V_aload_n C dL_tab_0 rfl ?_
  refine V_iconst C dL_tab_1 ?_
  refine V_aload_n C dL_tab_2 rfl ?_
  refine V_iload_n C dL_tab_3 rfl ?_
  refine V_iload_n C dL_tab_4 rfl ?_
  refine V_callVC (nA := 2) C dL_tab_5 hM gL_tab_X8_tab rfl hA rfl (by decide +kernel) rfl (by omega) (by decide) (Nat.le_of_ble_eq_true rfl) ⟨by omega, by omega⟩ rfl (name := xE2) [⟨0, 10, 13, 24⟩] ⟨0, 10, 17, 13⟩ [] ht ?_ (by decide) (by decide) (C.ts _ (by decide +kernel)) (cast_self hN.2.1.1) (fun q9 n9 => ?_)
  · exact List.forall_mem_cons.mpr ⟨Or.inr ⟨by decide, xE1, C.ts _ (by decide +kernel), hN.2.1.1⟩, fun _ h9 => absurd h9 List.not_mem_nil⟩
  · refine V_astore C dL_tab_17 rfl (by decide) ?_
    refine V_iconst C dL_tab_19 ?_
    exact V_ireturn C E dL_tab_20 (by omega) (by omega) ⟨rfl, rfl, rfl, rfl⟩
theorem L_tab (hG : GP G) (hGN : GN G) (hO : hasS S o (.inl (1, 1))) (hA : hasS S a (.inr (.inr (6, ks)))) (hfc : fc ≤ 8) {x1 x2 : Int} {f c : Int} (hc : (f = 0 ∧ c = 0) ∨ (f = 1 ∧ c = 1) ∨ (f = 2 ∧ c = 2)) (h0 : f = 0 → Ct G l yX8_tab wsX8_tab fc 0 0 [.ref a, .int (I32 x1), .int (I32 x2)] S n mu la (Dt (some (.int (I32 v))) S n mu' la)) (h1 : f ≠ 0 → CtX G l yX8_tab wsX8_tab 7 [.ref a, .int (I32 x1), .int (I32 x2)] S n mu la (exn f)) :
    Ct G l yL_tab wsL_tab 9 1 6 [.ref a, .int (I32 x1), .int (I32 x2), .ref o] S n mu la (Lp S c (if f = 0 then mu' else mu) (if f = 0 then upl la o 0 (I32 v).toInt64 else la)) := by
  rcases hc with ⟨rfl, rfl⟩ | ⟨rfl, rfl⟩ | ⟨rfl, rfl⟩
  · exact L_tab_k hG hO hA hfc (h0 rfl)
  · exact L_tab_x1 hG hGN hA (h1 (by decide))
  · exact L_tab_x2 hG hGN hA (h1 (by decide))
set_option maxRecDepth 20000 in
theorem ggL_group_X8_group : GoodIn wsL_group wsX8_group := goodIn_ca (goodIn_ca (goodIn_ca (goodIn_r _ [6, 7, 8, 9, 10, 5, 11, 12, 13, 14, 15, 16, 17, 18, 19, 20, 21, 22, 23, 24, 25, 26, 27, 28, 29, 30, 31, 32, 33, 34, 35, 36, 37, 38, 39, 40, 41, 42, 43, 44, 45, 46, 47, 48, 49, 50, 51, 52, 53, 54, 55, 56, 57, 58, 59, 60, 61, 62, 63, 64, 65, 66, 67, 68, 69, 70, 71] (by decide +kernel) (by decide +kernel)) (goodIn_sub (fun _ h => List.mem_cons_of_mem _ (List.mem_append_left _ (List.mem_append_left _ (List.mem_append_right _ h)))) (by decide +kernel))) (goodIn_sub (fun _ h => List.mem_cons_of_mem _ (List.mem_append_left _ (List.mem_append_right _ h))) (by decide +kernel))) (goodIn_sub (fun _ h => List.mem_cons_of_mem _ (List.mem_append_right _ h)) (by decide +kernel))
set_option maxRecDepth 20000 in
theorem gL_group_X8_group : GoodIn wsL_group (wsV RL 73 RX8 yX8_group wsX8_group) := goodIn_app (goodIn_of _ (by decide +kernel)) ggL_group_X8_group
theorem dL_group_0 : decode cL_group 0 = .ok (.aload_n 2, 1) := by decide +kernel
theorem dL_group_1 : decode cL_group 1 = .ok (.iconst 0, 1) := by decide +kernel
theorem dL_group_2 : decode cL_group 2 = .ok (.aload_n 0, 1) := by decide +kernel
theorem dL_group_3 : decode cL_group 3 = .ok (.iload_n 1, 1) := by decide +kernel
theorem dL_group_4 : decode cL_group 4 = .ok (.invokevirtual 73, 3) := by decide +kernel
theorem dL_group_7 : decode cL_group 7 = .ok (.i2l, 1) := by decide +kernel
theorem dL_group_8 : decode cL_group 8 = .ok (.lastore, 1) := by decide +kernel
theorem dL_group_9 : decode cL_group 9 = .ok (.goto 6, 3) := by decide +kernel
theorem dL_group_12 : decode cL_group 12 = .ok (.astore_n 3, 1) := by decide +kernel
theorem dL_group_13 : decode cL_group 13 = .ok (.iconst 1, 1) := by decide +kernel
theorem dL_group_14 : decode cL_group 14 = .ok (.ireturn, 1) := by decide +kernel
theorem dL_group_15 : decode cL_group 15 = .ok (.iconst 0, 1) := by decide +kernel
theorem dL_group_16 : decode cL_group 16 = .ok (.ireturn, 1) := by decide +kernel
theorem L_group_k (hG : GP G) (hO : hasS S o (.inl (1, 1))) (hA : hasS S a (.inr (.inr (6, ks)))) (hfc : fc ≤ 8) {x1 : Int} (hM : Ct G l yX8_group wsX8_group fc 0 0 [.ref a, .int (I32 x1)] S n mu la (Dt (some (.int (I32 v))) S n mu' la)) : Ct G l yL_group wsL_group 9 1 6 [.ref a, .int (I32 x1), .ref o] S n mu la (Lp S 0 mu' (upl la o 0 (I32 v).toInt64)) := by
  refine Ct.ofH (cc := cL_group) (nL := 4) (ret := some .int) (hh := [(0, 9, 12, 13)]) [some (.ref a), some (.int (I32 x1)), some (.ref o), none] hG (by decide) rfl (Nat.le_of_ble_eq_true rfl) rfl ?_
  rintro X rfl rfl C ht hcl hsl E
  refine V_aload_n C dL_group_0 rfl ?_
  refine V_iconst C dL_group_1 ?_
  refine V_aload_n C dL_group_2 rfl ?_
  refine V_iload_n C dL_group_3 rfl ?_
  refine V_callVD (nA := 1) C dL_group_4 hM gL_group_X8_group rfl hA rfl (by decide +kernel) rfl (by omega) (by decide) (Nat.le_of_ble_eq_true rfl) ⟨by omega, by omega⟩ rfl ?_
  refine V_i2l C dL_group_7 ?_
  refine V_last C dL_group_8 hO (by decide) (by decide) ?_
  refine V_goto C 15 dL_group_9 (by decide) ?_
  refine V_iconst C dL_group_15 ?_
  exact V_ireturn C E dL_group_16 (by omega) (by omega) ⟨rfl, rfl, rfl, rfl⟩
theorem L_group_x2 (hG : GP G) (hGN : GN G) (hA : hasS S a (.inr (.inr (6, ks)))) {x1 : Int} (hM : CtX G l yX8_group wsX8_group 7 [.ref a, .int (I32 x1)] S n mu la xE2) : Ct G l yL_group wsL_group 9 1 6 [.ref a, .int (I32 x1), .ref o] S n mu la (Lp S 1 mu la) := by
  refine Ct.ofH (cc := cL_group) (nL := 4) (ret := some .int) (hh := [(0, 9, 12, 13)]) [some (.ref a), some (.int (I32 x1)), some (.ref o), none] hG (by decide) rfl (Nat.le_of_ble_eq_true rfl) rfl ?_
  rintro X rfl rfl C ht hcl hsl E
  have hN := hGN _ C.pe.2.2
  refine V_aload_n C dL_group_0 rfl ?_
  refine V_iconst C dL_group_1 ?_
  refine V_aload_n C dL_group_2 rfl ?_
  refine V_iload_n C dL_group_3 rfl ?_
  refine V_callVC (nA := 1) C dL_group_4 hM gL_group_X8_group rfl hA rfl (by decide +kernel) rfl (by omega) (by decide) (Nat.le_of_ble_eq_true rfl) ⟨by omega, by omega⟩ rfl (name := xE2) [] ⟨0, 9, 12, 13⟩ [] ht ?_ (by decide) (by decide) (C.ts _ (by decide +kernel)) (cast_self hN.2.1.1) (fun q9 n9 => ?_)
  · exact fun _ h9 => absurd h9 List.not_mem_nil
  · refine V_astore_n C dL_group_12 rfl (by decide) ?_
    refine V_iconst C dL_group_13 ?_
    exact V_ireturn C E dL_group_14 (by omega) (by omega) ⟨rfl, rfl, rfl, rfl⟩
theorem L_group (hG : GP G) (hGN : GN G) (hO : hasS S o (.inl (1, 1))) (hA : hasS S a (.inr (.inr (6, ks)))) (hfc : fc ≤ 8) {x1 : Int} {f c : Int} (hc : (f = 0 ∧ c = 0) ∨ (f = 2 ∧ c = 1)) (h0 : f = 0 → Ct G l yX8_group wsX8_group fc 0 0 [.ref a, .int (I32 x1)] S n mu la (Dt (some (.int (I32 v))) S n mu' la)) (h1 : f ≠ 0 → CtX G l yX8_group wsX8_group 7 [.ref a, .int (I32 x1)] S n mu la (exn f)) :
    Ct G l yL_group wsL_group 9 1 6 [.ref a, .int (I32 x1), .ref o] S n mu la (Lp S c (if f = 0 then mu' else mu) (if f = 0 then upl la o 0 (I32 v).toInt64 else la)) := by
  rcases hc with ⟨rfl, rfl⟩ | ⟨rfl, rfl⟩
  · exact L_group_k hG hO hA hfc (h0 rfl)
  · exact L_group_x2 hG hGN hA (h1 (by decide))
set_option maxRecDepth 20000 in
theorem ggL_floating_X8_floating : GoodIn wsL_floating wsX8_floating := goodIn_ca (goodIn_ca (goodIn_ca (goodIn_r _ [6, 7, 8, 9, 5, 10, 11, 12, 13, 14, 15, 16, 17, 18, 19, 20, 21, 22, 23, 24, 25, 26, 27, 28, 29, 30, 31, 32, 33, 34, 35, 36, 37, 38, 39, 40, 41, 42, 43, 44, 45, 46, 47, 48, 49, 50, 51, 52, 53, 54] (by decide +kernel) (by decide +kernel)) (goodIn_sub (fun _ h => List.mem_cons_of_mem _ (List.mem_append_left _ (List.mem_append_left _ (List.mem_append_right _ h)))) (by decide +kernel))) (goodIn_sub (fun _ h => List.mem_cons_of_mem _ (List.mem_append_left _ (List.mem_append_right _ h))) (by decide +kernel))) (goodIn_sub (fun _ h => List.mem_cons_of_mem _ (List.mem_append_right _ h)) (by decide +kernel))
set_option maxRecDepth 20000 in
theorem gL_floating_X8_floating : GoodIn wsL_floating (wsV RL 76 RX8 yX8_floating wsX8_floating) := goodIn_app (goodIn_of _ (by decide +kernel)) ggL_floating_X8_floating
theorem dL_floating_0 : decode cL_floating 0 = .ok (.aload_n 2, 1) := by decide +kernel
theorem dL_floating_1 : decode cL_floating 1 = .ok (.iconst 0, 1) := by decide +kernel
theorem dL_floating_2 : decode cL_floating 2 = .ok (.aload_n 0, 1) := by decide +kernel
theorem dL_floating_3 : decode cL_floating 3 = .ok (.iload_n 1, 1) := by decide +kernel
theorem dL_floating_4 : decode cL_floating 4 = .ok (.invokevirtual 76, 3) := by decide +kernel
theorem dL_floating_7 : decode cL_floating 7 = .ok (.i2l, 1) := by decide +kernel
theorem dL_floating_8 : decode cL_floating 8 = .ok (.lastore, 1) := by decide +kernel
theorem dL_floating_9 : decode cL_floating 9 = .ok (.goto 6, 3) := by decide +kernel
theorem dL_floating_12 : decode cL_floating 12 = .ok (.astore_n 3, 1) := by decide +kernel
theorem dL_floating_13 : decode cL_floating 13 = .ok (.iconst 1, 1) := by decide +kernel
theorem dL_floating_14 : decode cL_floating 14 = .ok (.ireturn, 1) := by decide +kernel
theorem dL_floating_15 : decode cL_floating 15 = .ok (.iconst 0, 1) := by decide +kernel
theorem dL_floating_16 : decode cL_floating 16 = .ok (.ireturn, 1) := by decide +kernel
theorem L_floating_k (hG : GP G) (hO : hasS S o (.inl (1, 1))) (hA : hasS S a (.inr (.inr (6, ks)))) (hfc : fc ≤ 8) {x1 : Int} (hM : Ct G l yX8_floating wsX8_floating fc 0 0 [.ref a, .int (I32 x1)] S n mu la (Dt (some (.int (I32 v))) S n mu' la)) : Ct G l yL_floating wsL_floating 9 1 6 [.ref a, .int (I32 x1), .ref o] S n mu la (Lp S 0 mu' (upl la o 0 (I32 v).toInt64)) := by
  refine Ct.ofH (cc := cL_floating) (nL := 4) (ret := some .int) (hh := [(0, 9, 12, 13)]) [some (.ref a), some (.int (I32 x1)), some (.ref o), none] hG (by decide) rfl (Nat.le_of_ble_eq_true rfl) rfl ?_
  rintro X rfl rfl C ht hcl hsl E
  refine V_aload_n C dL_floating_0 rfl ?_
  refine V_iconst C dL_floating_1 ?_
  refine V_aload_n C dL_floating_2 rfl ?_
  refine V_iload_n C dL_floating_3 rfl ?_
  refine V_callVD (nA := 1) C dL_floating_4 hM gL_floating_X8_floating rfl hA rfl (by decide +kernel) rfl (by omega) (by decide) (Nat.le_of_ble_eq_true rfl) ⟨by omega, by omega⟩ rfl ?_
  refine V_i2l C dL_floating_7 ?_
  refine V_last C dL_floating_8 hO (by decide) (by decide) ?_
  refine V_goto C 15 dL_floating_9 (by decide) ?_
  refine V_iconst C dL_floating_15 ?_
  exact V_ireturn C E dL_floating_16 (by omega) (by omega) ⟨rfl, rfl, rfl, rfl⟩
theorem L_floating_x2 (hG : GP G) (hGN : GN G) (hA : hasS S a (.inr (.inr (6, ks)))) {x1 : Int} (hM : CtX G l yX8_floating wsX8_floating 7 [.ref a, .int (I32 x1)] S n mu la xE2) : Ct G l yL_floating wsL_floating 9 1 6 [.ref a, .int (I32 x1), .ref o] S n mu la (Lp S 1 mu la) := by
  refine Ct.ofH (cc := cL_floating) (nL := 4) (ret := some .int) (hh := [(0, 9, 12, 13)]) [some (.ref a), some (.int (I32 x1)), some (.ref o), none] hG (by decide) rfl (Nat.le_of_ble_eq_true rfl) rfl ?_
  rintro X rfl rfl C ht hcl hsl E
  have hN := hGN _ C.pe.2.2
  refine V_aload_n C dL_floating_0 rfl ?_
  refine V_iconst C dL_floating_1 ?_
  refine V_aload_n C dL_floating_2 rfl ?_
  refine V_iload_n C dL_floating_3 rfl ?_
  refine V_callVC (nA := 1) C dL_floating_4 hM gL_floating_X8_floating rfl hA rfl (by decide +kernel) rfl (by omega) (by decide) (Nat.le_of_ble_eq_true rfl) ⟨by omega, by omega⟩ rfl (name := xE2) [] ⟨0, 9, 12, 13⟩ [] ht ?_ (by decide) (by decide) (C.ts _ (by decide +kernel)) (cast_self hN.2.1.1) (fun q9 n9 => ?_)
  · exact fun _ h9 => absurd h9 List.not_mem_nil
  · refine V_astore_n C dL_floating_12 rfl (by decide) ?_
    refine V_iconst C dL_floating_13 ?_
    exact V_ireturn C E dL_floating_14 (by omega) (by omega) ⟨rfl, rfl, rfl, rfl⟩
theorem L_floating (hG : GP G) (hGN : GN G) (hO : hasS S o (.inl (1, 1))) (hA : hasS S a (.inr (.inr (6, ks)))) (hfc : fc ≤ 8) {x1 : Int} {f c : Int} (hc : (f = 0 ∧ c = 0) ∨ (f = 2 ∧ c = 1)) (h0 : f = 0 → Ct G l yX8_floating wsX8_floating fc 0 0 [.ref a, .int (I32 x1)] S n mu la (Dt (some (.int (I32 v))) S n mu' la)) (h1 : f ≠ 0 → CtX G l yX8_floating wsX8_floating 7 [.ref a, .int (I32 x1)] S n mu la (exn f)) :
    Ct G l yL_floating wsL_floating 9 1 6 [.ref a, .int (I32 x1), .ref o] S n mu la (Lp S c (if f = 0 then mu' else mu) (if f = 0 then upl la o 0 (I32 v).toInt64 else la)) := by
  rcases hc with ⟨rfl, rfl⟩ | ⟨rfl, rfl⟩
  · exact L_floating_k hG hO hA hfc (h0 rfl)
  · exact L_floating_x2 hG hGN hA (h1 (by decide))
set_option maxRecDepth 20000 in
theorem ggL_whole_X8_whole : GoodIn wsL_whole wsX8_whole := goodIn_ca (goodIn_ca (goodIn_ca (goodIn_r _ [6, 7, 8, 9, 10, 5, 11, 12, 13, 14, 15, 16, 17, 18, 19, 20, 21, 22, 23, 24, 25, 26, 27, 28, 29, 30, 31, 32, 33, 34, 35, 36, 37, 38, 39, 40, 41, 42, 43, 44, 45, 46, 47, 48, 49, 50, 51, 52, 53, 54, 55, 56, 57, 58, 59, 60, 61, 62, 63, 64, 65, 66, 67, 68, 69, 70, 71, 72, 73, 74, 75, 76, 77, 78, 79, 80, 81, 82, 83, 84, 85, 86, 87, 88, 89, 90, 91, 92, 93, 94, 95, 96, 97, 98, 99, 100, 101, 102] (by decide +kernel) (by decide +kernel)) (goodIn_sub (fun _ h => List.mem_cons_of_mem _ (List.mem_append_left _ (List.mem_append_left _ (List.mem_append_right _ h)))) (by decide +kernel))) (goodIn_sub (fun _ h => List.mem_cons_of_mem _ (List.mem_append_left _ (List.mem_append_right _ h))) (by decide +kernel))) (goodIn_sub (fun _ h => List.mem_cons_of_mem _ (List.mem_append_right _ h)) (by decide +kernel))
set_option maxRecDepth 20000 in
theorem gL_whole_X8_whole : GoodIn wsL_whole (wsV RL 79 RX8 yX8_whole wsX8_whole) := goodIn_app (goodIn_of _ (by decide +kernel)) ggL_whole_X8_whole
theorem dL_whole_0 : decode cL_whole 0 = .ok (.aload_n 2, 1) := by decide +kernel
theorem dL_whole_1 : decode cL_whole 1 = .ok (.iconst 0, 1) := by decide +kernel
theorem dL_whole_2 : decode cL_whole 2 = .ok (.aload_n 0, 1) := by decide +kernel
theorem dL_whole_3 : decode cL_whole 3 = .ok (.iload_n 1, 1) := by decide +kernel
theorem dL_whole_4 : decode cL_whole 4 = .ok (.invokevirtual 79, 3) := by decide +kernel
theorem dL_whole_7 : decode cL_whole 7 = .ok (.i2l, 1) := by decide +kernel
theorem dL_whole_8 : decode cL_whole 8 = .ok (.lastore, 1) := by decide +kernel
theorem dL_whole_9 : decode cL_whole 9 = .ok (.goto 6, 3) := by decide +kernel
theorem dL_whole_12 : decode cL_whole 12 = .ok (.astore_n 3, 1) := by decide +kernel
theorem dL_whole_13 : decode cL_whole 13 = .ok (.iconst 1, 1) := by decide +kernel
theorem dL_whole_14 : decode cL_whole 14 = .ok (.ireturn, 1) := by decide +kernel
theorem dL_whole_15 : decode cL_whole 15 = .ok (.iconst 0, 1) := by decide +kernel
theorem dL_whole_16 : decode cL_whole 16 = .ok (.ireturn, 1) := by decide +kernel
theorem L_whole_k (hG : GP G) (hO : hasS S o (.inl (1, 1))) (hA : hasS S a (.inr (.inr (6, ks)))) (hfc : fc ≤ 8) {x1 : Int} (hM : Ct G l yX8_whole wsX8_whole fc 0 0 [.ref a, .int (I32 x1)] S n mu la (Dt (some (.int (I32 v))) S n mu' la)) : Ct G l yL_whole wsL_whole 9 1 6 [.ref a, .int (I32 x1), .ref o] S n mu la (Lp S 0 mu' (upl la o 0 (I32 v).toInt64)) := by
  refine Ct.ofH (cc := cL_whole) (nL := 4) (ret := some .int) (hh := [(0, 9, 12, 13)]) [some (.ref a), some (.int (I32 x1)), some (.ref o), none] hG (by decide) rfl (Nat.le_of_ble_eq_true rfl) rfl ?_
  rintro X rfl rfl C ht hcl hsl E
  refine V_aload_n C dL_whole_0 rfl ?_
  refine V_iconst C dL_whole_1 ?_
  refine V_aload_n C dL_whole_2 rfl ?_
  refine V_iload_n C dL_whole_3 rfl ?_
  refine V_callVD (nA := 1) C dL_whole_4 hM gL_whole_X8_whole rfl hA rfl (by decide +kernel) rfl (by omega) (by decide) (Nat.le_of_ble_eq_true rfl) ⟨by omega, by omega⟩ rfl ?_
  refine V_i2l C dL_whole_7 ?_
  refine V_last C dL_whole_8 hO (by decide) (by decide) ?_
  refine V_goto C 15 dL_whole_9 (by decide) ?_
  refine V_iconst C dL_whole_15 ?_
  exact V_ireturn C E dL_whole_16 (by omega) (by omega) ⟨rfl, rfl, rfl, rfl⟩
theorem L_whole_x2 (hG : GP G) (hGN : GN G) (hA : hasS S a (.inr (.inr (6, ks)))) {x1 : Int} (hM : CtX G l yX8_whole wsX8_whole 7 [.ref a, .int (I32 x1)] S n mu la xE2) : Ct G l yL_whole wsL_whole 9 1 6 [.ref a, .int (I32 x1), .ref o] S n mu la (Lp S 1 mu la) := by
  refine Ct.ofH (cc := cL_whole) (nL := 4) (ret := some .int) (hh := [(0, 9, 12, 13)]) [some (.ref a), some (.int (I32 x1)), some (.ref o), none] hG (by decide) rfl (Nat.le_of_ble_eq_true rfl) rfl ?_
  rintro X rfl rfl C ht hcl hsl E
  have hN := hGN _ C.pe.2.2
  refine V_aload_n C dL_whole_0 rfl ?_
  refine V_iconst C dL_whole_1 ?_
  refine V_aload_n C dL_whole_2 rfl ?_
  refine V_iload_n C dL_whole_3 rfl ?_
  refine V_callVC (nA := 1) C dL_whole_4 hM gL_whole_X8_whole rfl hA rfl (by decide +kernel) rfl (by omega) (by decide) (Nat.le_of_ble_eq_true rfl) ⟨by omega, by omega⟩ rfl (name := xE2) [] ⟨0, 9, 12, 13⟩ [] ht ?_ (by decide) (by decide) (C.ts _ (by decide +kernel)) (cast_self hN.2.1.1) (fun q9 n9 => ?_)
  · exact fun _ h9 => absurd h9 List.not_mem_nil
  · refine V_astore_n C dL_whole_12 rfl (by decide) ?_
    refine V_iconst C dL_whole_13 ?_
    exact V_ireturn C E dL_whole_14 (by omega) (by omega) ⟨rfl, rfl, rfl, rfl⟩
theorem L_whole (hG : GP G) (hGN : GN G) (hO : hasS S o (.inl (1, 1))) (hA : hasS S a (.inr (.inr (6, ks)))) (hfc : fc ≤ 8) {x1 : Int} {f c : Int} (hc : (f = 0 ∧ c = 0) ∨ (f = 2 ∧ c = 1)) (h0 : f = 0 → Ct G l yX8_whole wsX8_whole fc 0 0 [.ref a, .int (I32 x1)] S n mu la (Dt (some (.int (I32 v))) S n mu' la)) (h1 : f ≠ 0 → CtX G l yX8_whole wsX8_whole 7 [.ref a, .int (I32 x1)] S n mu la (exn f)) :
    Ct G l yL_whole wsL_whole 9 1 6 [.ref a, .int (I32 x1), .ref o] S n mu la (Lp S c (if f = 0 then mu' else mu) (if f = 0 then upl la o 0 (I32 v).toInt64 else la)) := by
  rcases hc with ⟨rfl, rfl⟩ | ⟨rfl, rfl⟩
  · exact L_whole_k hG hO hA hfc (h0 rfl)
  · exact L_whole_x2 hG hGN hA (h1 (by decide))
set_option maxRecDepth 20000 in
theorem ggL_tightIn_X8_tightIn : GoodIn wsL_tightIn wsX8_tightIn := goodIn_ca (goodIn_ca (goodIn_ca (goodIn_r _ [6, 7, 8, 9, 10, 5, 11, 12, 13, 14, 15, 16, 17, 18, 19, 20, 21, 22, 23, 24, 25, 26, 27, 28, 29, 30, 31, 32, 33, 34, 35, 36, 37, 38, 39, 40, 41, 42, 43, 44, 45, 46, 47, 48, 49, 50, 51, 52, 53, 54, 55, 56, 57, 58, 59, 60, 61, 62, 63, 64, 65, 66, 67, 68, 69, 70, 71, 72, 73, 74, 75, 76, 77, 78, 79, 80, 81, 82, 83, 84, 85, 86, 87, 88, 89, 90, 91, 92, 93, 94, 95, 96, 97, 98, 99, 100, 101, 102, 103, 104, 105, 106, 107, 108, 109, 110, 111, 112, 113, 114, 115, 116, 117, 118, 119, 120, 121, 122, 123, 124, 125, 126, 127, 128, 129, 130, 131, 132, 133, 134, 135, 136, 137, 138, 139, 140, 141, 142, 143, 144, 145, 146, 147, 148, 149, 150, 151, 152, 153, 154, 155, 156, 157, 158, 159, 160, 161, 162, 163, 164, 165, 166, 167, 168, 169, 170, 171, 172, 173, 174, 175, 176, 177, 178, 179, 180, 181, 182, 183, 184, 185, 186, 187, 188, 189, 190, 191, 192, 193, 194, 195, 196, 197, 198, 199, 200, 201, 202, 203, 204, 205, 206, 207, 208, 209, 210, 211, 212, 213, 214, 215, 216, 217, 218, 219, 220, 221, 222] (by decide +kernel) (by decide +kernel)) (goodIn_sub (fun _ h => List.mem_cons_of_mem _ (List.mem_append_left _ (List.mem_append_left _ (List.mem_append_right _ h)))) (by decide +kernel))) (goodIn_sub (fun _ h => List.mem_cons_of_mem _ (List.mem_append_left _ (List.mem_append_right _ h))) (by decide +kernel))) (goodIn_sub (fun _ h => List.mem_cons_of_mem _ (List.mem_append_right _ h)) (by decide +kernel))
set_option maxRecDepth 20000 in
theorem gL_tightIn_X8_tightIn : GoodIn wsL_tightIn (wsV RL 82 RX8 yX8_tightIn wsX8_tightIn) := goodIn_app (goodIn_of _ (by decide +kernel)) ggL_tightIn_X8_tightIn
theorem dL_tightIn_0 : decode cL_tightIn 0 = .ok (.aload_n 3, 1) := by decide +kernel
theorem dL_tightIn_1 : decode cL_tightIn 1 = .ok (.iconst 0, 1) := by decide +kernel
theorem dL_tightIn_2 : decode cL_tightIn 2 = .ok (.aload_n 0, 1) := by decide +kernel
theorem dL_tightIn_3 : decode cL_tightIn 3 = .ok (.iload_n 1, 1) := by decide +kernel
theorem dL_tightIn_4 : decode cL_tightIn 4 = .ok (.iload_n 2, 1) := by decide +kernel
theorem dL_tightIn_5 : decode cL_tightIn 5 = .ok (.invokevirtual 82, 3) := by decide +kernel
theorem dL_tightIn_8 : decode cL_tightIn 8 = .ok (.i2l, 1) := by decide +kernel
theorem dL_tightIn_9 : decode cL_tightIn 9 = .ok (.lastore, 1) := by decide +kernel
theorem dL_tightIn_10 : decode cL_tightIn 10 = .ok (.goto 7, 3) := by decide +kernel
theorem dL_tightIn_13 : decode cL_tightIn 13 = .ok (.astore 4, 2) := by decide +kernel
theorem dL_tightIn_15 : decode cL_tightIn 15 = .ok (.iconst 1, 1) := by decide +kernel
theorem dL_tightIn_16 : decode cL_tightIn 16 = .ok (.ireturn, 1) := by decide +kernel
theorem dL_tightIn_17 : decode cL_tightIn 17 = .ok (.iconst 0, 1) := by decide +kernel
theorem dL_tightIn_18 : decode cL_tightIn 18 = .ok (.ireturn, 1) := by decide +kernel
theorem L_tightIn_k (hG : GP G) (hO : hasS S o (.inl (1, 1))) (hA : hasS S a (.inr (.inr (6, ks)))) (hfc : fc ≤ 8) {x1 x2 : Int} (hM : Ct G l yX8_tightIn wsX8_tightIn fc 0 0 [.ref a, .int (I32 x1), .int (I32 x2)] S n mu la (Dt (some (.int (I32 v))) S n mu' la)) : Ct G l yL_tightIn wsL_tightIn 9 1 6 [.ref a, .int (I32 x1), .int (I32 x2), .ref o] S n mu la (Lp S 0 mu' (upl la o 0 (I32 v).toInt64)) := by
  refine Ct.ofH (cc := cL_tightIn) (nL := 5) (ret := some .int) (hh := [(0, 10, 13, 13)]) [some (.ref a), some (.int (I32 x1)), some (.int (I32 x2)), some (.ref o), none] hG (by decide) rfl (Nat.le_of_ble_eq_true rfl) rfl ?_
  rintro X rfl rfl C ht hcl hsl E
  refine V_aload_n C dL_tightIn_0 rfl ?_
  refine V_iconst C dL_tightIn_1 ?_
  refine V_aload_n C dL_tightIn_2 rfl ?_
  refine V_iload_n C dL_tightIn_3 rfl ?_
  refine V_iload_n C dL_tightIn_4 rfl ?_
  refine V_callVD (nA := 2) C dL_tightIn_5 hM gL_tightIn_X8_tightIn rfl hA rfl (by decide +kernel) rfl (by omega) (by decide) (Nat.le_of_ble_eq_true rfl) ⟨by omega, by omega⟩ rfl ?_
  refine V_i2l C dL_tightIn_8 ?_
  refine V_last C dL_tightIn_9 hO (by decide) (by decide) ?_
  refine V_goto C 17 dL_tightIn_10 (by decide) ?_
  refine V_iconst C dL_tightIn_17 ?_
  exact V_ireturn C E dL_tightIn_18 (by omega) (by omega) ⟨rfl, rfl, rfl, rfl⟩
theorem L_tightIn_x2 (hG : GP G) (hGN : GN G) (hA : hasS S a (.inr (.inr (6, ks)))) {x1 x2 : Int} (hM : CtX G l yX8_tightIn wsX8_tightIn 7 [.ref a, .int (I32 x1), .int (I32 x2)] S n mu la xE2) : Ct G l yL_tightIn wsL_tightIn 9 1 6 [.ref a, .int (I32 x1), .int (I32 x2), .ref o] S n mu la (Lp S 1 mu la) := by
  refine Ct.ofH (cc := cL_tightIn) (nL := 5) (ret := some .int) (hh := [(0, 10, 13, 13)]) [some (.ref a), some (.int (I32 x1)), some (.int (I32 x2)), some (.ref o), none] hG (by decide) rfl (Nat.le_of_ble_eq_true rfl) rfl ?_
  rintro X rfl rfl C ht hcl hsl E
  have hN := hGN _ C.pe.2.2
  refine V_aload_n C dL_tightIn_0 rfl ?_
  refine V_iconst C dL_tightIn_1 ?_
  refine V_aload_n C dL_tightIn_2 rfl ?_
  refine V_iload_n C dL_tightIn_3 rfl ?_
  refine V_iload_n C dL_tightIn_4 rfl ?_
  refine V_callVC (nA := 2) C dL_tightIn_5 hM gL_tightIn_X8_tightIn rfl hA rfl (by decide +kernel) rfl (by omega) (by decide) (Nat.le_of_ble_eq_true rfl) ⟨by omega, by omega⟩ rfl (name := xE2) [] ⟨0, 10, 13, 13⟩ [] ht ?_ (by decide) (by decide) (C.ts _ (by decide +kernel)) (cast_self hN.2.1.1) (fun q9 n9 => ?_)
  · exact fun _ h9 => absurd h9 List.not_mem_nil
  · refine V_astore C dL_tightIn_13 rfl (by decide) ?_
    refine V_iconst C dL_tightIn_15 ?_
    exact V_ireturn C E dL_tightIn_16 (by omega) (by omega) ⟨rfl, rfl, rfl, rfl⟩
theorem L_tightIn (hG : GP G) (hGN : GN G) (hO : hasS S o (.inl (1, 1))) (hA : hasS S a (.inr (.inr (6, ks)))) (hfc : fc ≤ 8) {x1 x2 : Int} {f c : Int} (hc : (f = 0 ∧ c = 0) ∨ (f = 2 ∧ c = 1)) (h0 : f = 0 → Ct G l yX8_tightIn wsX8_tightIn fc 0 0 [.ref a, .int (I32 x1), .int (I32 x2)] S n mu la (Dt (some (.int (I32 v))) S n mu' la)) (h1 : f ≠ 0 → CtX G l yX8_tightIn wsX8_tightIn 7 [.ref a, .int (I32 x1), .int (I32 x2)] S n mu la (exn f)) :
    Ct G l yL_tightIn wsL_tightIn 9 1 6 [.ref a, .int (I32 x1), .int (I32 x2), .ref o] S n mu la (Lp S c (if f = 0 then mu' else mu) (if f = 0 then upl la o 0 (I32 v).toInt64 else la)) := by
  rcases hc with ⟨rfl, rfl⟩ | ⟨rfl, rfl⟩
  · exact L_tightIn_k hG hO hA hfc (h0 rfl)
  · exact L_tightIn_x2 hG hGN hA (h1 (by decide))
set_option maxRecDepth 20000 in
theorem ggL_cellsIf_X8_cellsIf : GoodIn wsL_cellsIf wsX8_cellsIf := goodIn_ca (goodIn_ca (goodIn_ca (goodIn_r _ [8, 9, 10, 11, 7, 12, 13, 14, 15, 16, 17, 18, 19, 20, 21, 22, 23, 24, 25, 26, 27, 28, 29, 30, 31, 32, 33, 34, 35, 36, 37, 38, 39, 40, 41, 42, 43, 44, 45, 46, 47, 48, 49, 50, 51, 52, 53, 54, 55, 56, 57, 58, 59, 60, 61, 62, 63, 64, 65, 66, 67, 68, 69, 70, 71, 72, 73, 74, 75, 76, 77, 78, 79, 80, 81, 82, 83, 84, 85, 86, 87, 88, 89, 90, 91, 92, 93, 94, 95, 96, 97, 98, 99, 100, 101, 102, 103, 104, 105, 106, 107, 108, 109, 110, 111, 112, 113, 114, 115, 116, 117, 118, 119, 120, 121, 122, 123, 124, 125, 126, 127, 128, 129, 130, 131, 132, 133, 134, 135, 136, 137, 138, 139, 140, 141, 142, 143, 144, 145, 146, 147, 148, 149, 150, 151, 152, 153, 154, 155, 156, 157, 158, 159, 160, 161, 162, 163, 164, 165, 166, 167, 168, 169, 170, 171, 172, 173, 174, 175, 176, 177, 178, 179, 180, 181, 182, 183, 184, 185, 186, 187, 188, 189, 190, 191, 192, 193, 194, 195, 196, 197, 198, 199, 200, 201, 202, 203, 204, 205, 206, 207, 208, 209, 210, 211, 212, 213, 214, 215, 216, 217, 218, 219, 220, 221, 222, 223, 224, 225, 226, 227, 228, 229, 230, 231, 232, 233, 234, 235, 236, 237, 238, 239, 240, 241, 242, 243, 244, 245, 246, 247, 248, 249, 250, 251, 252, 253, 254, 255, 256, 257, 258, 259, 260, 261, 262, 263, 264, 265, 266, 267, 268, 269, 270, 271, 272, 273, 274, 275, 276, 277, 278, 279, 280, 281, 282, 283, 284, 285, 286, 287, 288, 289, 290, 291, 292, 293, 294, 295, 296, 297, 298, 299, 300, 301, 302, 303, 304, 305, 306, 307, 308, 309, 310, 311] (by decide +kernel) (by decide +kernel)) (goodIn_sub (fun _ h => List.mem_cons_of_mem _ (List.mem_append_left _ (List.mem_append_left _ (List.mem_append_right _ h)))) (by decide +kernel))) (goodIn_sub (fun _ h => List.mem_cons_of_mem _ (List.mem_append_left _ (List.mem_append_right _ h))) (by decide +kernel))) (goodIn_sub (fun _ h => List.mem_cons_of_mem _ (List.mem_append_right _ h)) (by decide +kernel))
set_option maxRecDepth 20000 in
theorem gL_cellsIf_X8_cellsIf : GoodIn wsL_cellsIf (wsV RL 85 RX8 yX8_cellsIf wsX8_cellsIf) := goodIn_app (goodIn_of _ (by decide +kernel)) ggL_cellsIf_X8_cellsIf
theorem dL_cellsIf_0 : decode cL_cellsIf 0 = .ok (.aload 4, 2) := by decide +kernel
theorem dL_cellsIf_2 : decode cL_cellsIf 2 = .ok (.iconst 0, 1) := by decide +kernel
theorem dL_cellsIf_3 : decode cL_cellsIf 3 = .ok (.aload_n 0, 1) := by decide +kernel
theorem dL_cellsIf_4 : decode cL_cellsIf 4 = .ok (.iload_n 1, 1) := by decide +kernel
theorem dL_cellsIf_5 : decode cL_cellsIf 5 = .ok (.iload_n 2, 1) := by decide +kernel
theorem dL_cellsIf_6 : decode cL_cellsIf 6 = .ok (.iload_n 3, 1) := by decide +kernel
theorem dL_cellsIf_7 : decode cL_cellsIf 7 = .ok (.invokevirtual 85, 3) := by decide +kernel
theorem dL_cellsIf_10 : decode cL_cellsIf 10 = .ok (.i2l, 1) := by decide +kernel
theorem dL_cellsIf_11 : decode cL_cellsIf 11 = .ok (.lastore, 1) := by decide +kernel
theorem dL_cellsIf_12 : decode cL_cellsIf 12 = .ok (.goto 15, 3) := by decide +kernel
theorem dL_cellsIf_15 : decode cL_cellsIf 15 = .ok (.astore 5, 2) := by decide +kernel
theorem dL_cellsIf_17 : decode cL_cellsIf 17 = .ok (.iconst 1, 1) := by decide +kernel
theorem dL_cellsIf_18 : decode cL_cellsIf 18 = .ok (.ireturn, 1) := by decide +kernel
theorem dL_cellsIf_19 : decode cL_cellsIf 19 = .ok (.astore 5, 2) := by decide +kernel
theorem dL_cellsIf_21 : decode cL_cellsIf 21 = .ok (.iconst 2, 1) := by decide +kernel
theorem dL_cellsIf_22 : decode cL_cellsIf 22 = .ok (.ireturn, 1) := by decide +kernel
theorem dL_cellsIf_23 : decode cL_cellsIf 23 = .ok (.astore 5, 2) := by decide +kernel
theorem dL_cellsIf_25 : decode cL_cellsIf 25 = .ok (.iconst 3, 1) := by decide +kernel
theorem dL_cellsIf_26 : decode cL_cellsIf 26 = .ok (.ireturn, 1) := by decide +kernel
theorem dL_cellsIf_27 : decode cL_cellsIf 27 = .ok (.iconst 0, 1) := by decide +kernel
theorem dL_cellsIf_28 : decode cL_cellsIf 28 = .ok (.ireturn, 1) := by decide +kernel
theorem L_cellsIf_k (hG : GP G) (hO : hasS S o (.inl (1, 1))) (hA : hasS S a (.inr (.inr (6, ks)))) (hfc : fc ≤ 8) {x1 x2 x3 : Int} (hM : Ct G l yX8_cellsIf wsX8_cellsIf fc 0 0 [.ref a, .int (I32 x1), .int (I32 x2), .int (I32 x3)] S n mu la (Dt (some (.int (I32 v))) S n mu' la)) : Ct G l yL_cellsIf wsL_cellsIf 9 1 6 [.ref a, .int (I32 x1), .int (I32 x2), .int (I32 x3), .ref o] S n mu la (Lp S 0 mu' (upl la o 0 (I32 v).toInt64)) := by
  refine Ct.ofH (cc := cL_cellsIf) (nL := 6) (ret := some .int) (hh := [(0, 12, 15, 24), (0, 12, 19, 13), (0, 12, 23, 18)]) [some (.ref a), some (.int (I32 x1)), some (.int (I32 x2)), some (.int (I32 x3)), some (.ref o), none] hG (by decide) rfl (Nat.le_of_ble_eq_true rfl) rfl ?_
  rintro X rfl rfl C ht hcl hsl E
  refine V_aload C dL_cellsIf_0 rfl ?_
  refine V_iconst C dL_cellsIf_2 ?_
  refine V_aload_n C dL_cellsIf_3 rfl ?_
  refine V_iload_n C dL_cellsIf_4 rfl ?_
  refine V_iload_n C dL_cellsIf_5 rfl ?_
  refine V_iload_n C dL_cellsIf_6 rfl ?_
  refine V_callVD (nA := 3) C dL_cellsIf_7 hM gL_cellsIf_X8_cellsIf rfl hA rfl (by decide +kernel) rfl (by omega) (by decide) (Nat.le_of_ble_eq_true rfl) ⟨by omega, by omega⟩ rfl ?_
  refine V_i2l C dL_cellsIf_10 ?_
  refine V_last C dL_cellsIf_11 hO (by decide) (by decide) ?_
  refine V_goto C 27 dL_cellsIf_12 (by decide) ?_
  refine V_iconst C dL_cellsIf_27 ?_
  exact V_ireturn C E dL_cellsIf_28 (by omega) (by omega) ⟨rfl, rfl, rfl, rfl⟩
theorem L_cellsIf_x1 (hG : GP G) (hGN : GN G) (hA : hasS S a (.inr (.inr (6, ks)))) {x1 x2 x3 : Int} (hM : CtX G l yX8_cellsIf wsX8_cellsIf 7 [.ref a, .int (I32 x1), .int (I32 x2), .int (I32 x3)] S n mu la xE1) : Ct G l yL_cellsIf wsL_cellsIf 9 1 6 [.ref a, .int (I32 x1), .int (I32 x2), .int (I32 x3), .ref o] S n mu la (Lp S 1 mu la) := by
  refine Ct.ofH (cc := cL_cellsIf) (nL := 6) (ret := some .int) (hh := [(0, 12, 15, 24), (0, 12, 19, 13), (0, 12, 23, 18)]) [some (.ref a), some (.int (I32 x1)), some (.int (I32 x2)), some (.int (I32 x3)), some (.ref o), none] hG (by decide) rfl (Nat.le_of_ble_eq_true rfl) rfl ?_
  rintro X rfl rfl C ht hcl hsl E
  have hN := hGN _ C.pe.2.2
  refine V_aload C dL_cellsIf_0 rfl ?_
  refine V_iconst C dL_cellsIf_2 ?_
  refine V_aload_n C dL_cellsIf_3 rfl ?_
  refine V_iload_n C dL_cellsIf_4 rfl ?_
  refine V_iload_n C dL_cellsIf_5 rfl ?_
  refine V_iload_n C dL_cellsIf_6 rfl ?_
  refine V_callVC (nA := 3) C dL_cellsIf_7 hM gL_cellsIf_X8_cellsIf rfl hA rfl (by decide +kernel) rfl (by omega) (by decide) (Nat.le_of_ble_eq_true rfl) ⟨by omega, by omega⟩ rfl (name := xE1) [] ⟨0, 12, 15, 24⟩ [⟨0, 12, 19, 13⟩, ⟨0, 12, 23, 18⟩] ht ?_ (by decide) (by decide) (C.ts _ (by decide +kernel)) (cast_self hN.1.1) (fun q9 n9 => ?_)
  · exact fun _ h9 => absurd h9 List.not_mem_nil
  · refine V_astore C dL_cellsIf_15 rfl (by decide) ?_
    refine V_iconst C dL_cellsIf_17 ?_
    exact V_ireturn C E dL_cellsIf_18 (by omega) (by omega) ⟨rfl, rfl, rfl, rfl⟩
theorem L_cellsIf_x2 (hG : GP G) (hGN : GN G) (hA : hasS S a (.inr (.inr (6, ks)))) {x1 x2 x3 : Int} (hM : CtX G l yX8_cellsIf wsX8_cellsIf 7 [.ref a, .int (I32 x1), .int (I32 x2), .int (I32 x3)] S n mu la xE2) : Ct G l yL_cellsIf wsL_cellsIf 9 1 6 [.ref a, .int (I32 x1), .int (I32 x2), .int (I32 x3), .ref o] S n mu la (Lp S 2 mu la) := by
  refine Ct.ofH (cc := cL_cellsIf) (nL := 6) (ret := some .int) (hh := [(0, 12, 15, 24), (0, 12, 19, 13), (0, 12, 23, 18)]) [some (.ref a), some (.int (I32 x1)), some (.int (I32 x2)), some (.int (I32 x3)), some (.ref o), none] hG (by decide) rfl (Nat.le_of_ble_eq_true rfl) rfl ?_
  rintro X rfl rfl C ht hcl hsl E
  have hN := hGN _ C.pe.2.2
  refine V_aload C dL_cellsIf_0 rfl ?_
  refine V_iconst C dL_cellsIf_2 ?_
  refine V_aload_n C dL_cellsIf_3 rfl ?_
  refine V_iload_n C dL_cellsIf_4 rfl ?_
  refine V_iload_n C dL_cellsIf_5 rfl ?_
  refine V_iload_n C dL_cellsIf_6 rfl ?_
  refine V_callVC (nA := 3) C dL_cellsIf_7 hM gL_cellsIf_X8_cellsIf rfl hA rfl (by decide +kernel) rfl (by omega) (by decide) (Nat.le_of_ble_eq_true rfl) ⟨by omega, by omega⟩ rfl (name := xE2) [⟨0, 12, 15, 24⟩] ⟨0, 12, 19, 13⟩ [⟨0, 12, 23, 18⟩] ht ?_ (by decide) (by decide) (C.ts _ (by decide +kernel)) (cast_self hN.2.1.1) (fun q9 n9 => ?_)
  · exact List.forall_mem_cons.mpr ⟨Or.inr ⟨by decide, xE1, C.ts _ (by decide +kernel), hN.2.1.1⟩, fun _ h9 => absurd h9 List.not_mem_nil⟩
  · refine V_astore C dL_cellsIf_19 rfl (by decide) ?_
    refine V_iconst C dL_cellsIf_21 ?_
    exact V_ireturn C E dL_cellsIf_22 (by omega) (by omega) ⟨rfl, rfl, rfl, rfl⟩
theorem L_cellsIf_x3 (hG : GP G) (hGN : GN G) (hA : hasS S a (.inr (.inr (6, ks)))) {x1 x2 x3 : Int} (hM : CtX G l yX8_cellsIf wsX8_cellsIf 7 [.ref a, .int (I32 x1), .int (I32 x2), .int (I32 x3)] S n mu la xE3) : Ct G l yL_cellsIf wsL_cellsIf 9 1 6 [.ref a, .int (I32 x1), .int (I32 x2), .int (I32 x3), .ref o] S n mu la (Lp S 3 mu la) := by
  refine Ct.ofH (cc := cL_cellsIf) (nL := 6) (ret := some .int) (hh := [(0, 12, 15, 24), (0, 12, 19, 13), (0, 12, 23, 18)]) [some (.ref a), some (.int (I32 x1)), some (.int (I32 x2)), some (.int (I32 x3)), some (.ref o), none] hG (by decide) rfl (Nat.le_of_ble_eq_true rfl) rfl ?_
  rintro X rfl rfl C ht hcl hsl E
  have hN := hGN _ C.pe.2.2
  refine V_aload C dL_cellsIf_0 rfl ?_
  refine V_iconst C dL_cellsIf_2 ?_
  refine V_aload_n C dL_cellsIf_3 rfl ?_
  refine V_iload_n C dL_cellsIf_4 rfl ?_
  refine V_iload_n C dL_cellsIf_5 rfl ?_
  refine V_iload_n C dL_cellsIf_6 rfl ?_
  refine V_callVC (nA := 3) C dL_cellsIf_7 hM gL_cellsIf_X8_cellsIf rfl hA rfl (by decide +kernel) rfl (by omega) (by decide) (Nat.le_of_ble_eq_true rfl) ⟨by omega, by omega⟩ rfl (name := xE3) [⟨0, 12, 15, 24⟩, ⟨0, 12, 19, 13⟩] ⟨0, 12, 23, 18⟩ [] ht ?_ (by decide) (by decide) (C.ts _ (by decide +kernel)) (cast_self hN.2.2.1) (fun q9 n9 => ?_)
  · exact List.forall_mem_cons.mpr ⟨Or.inr ⟨by decide, xE1, C.ts _ (by decide +kernel), hN.2.2.1⟩, List.forall_mem_cons.mpr ⟨Or.inr ⟨by decide, xE2, C.ts _ (by decide +kernel), hN.2.2.2⟩, fun _ h9 => absurd h9 List.not_mem_nil⟩⟩
  · refine V_astore C dL_cellsIf_23 rfl (by decide) ?_
    refine V_iconst C dL_cellsIf_25 ?_
    exact V_ireturn C E dL_cellsIf_26 (by omega) (by omega) ⟨rfl, rfl, rfl, rfl⟩
theorem L_cellsIf (hG : GP G) (hGN : GN G) (hO : hasS S o (.inl (1, 1))) (hA : hasS S a (.inr (.inr (6, ks)))) (hfc : fc ≤ 8) {x1 x2 x3 : Int} {f c : Int} (hc : (f = 0 ∧ c = 0) ∨ (f = 1 ∧ c = 1) ∨ (f = 2 ∧ c = 2) ∨ (f = 3 ∧ c = 3)) (h0 : f = 0 → Ct G l yX8_cellsIf wsX8_cellsIf fc 0 0 [.ref a, .int (I32 x1), .int (I32 x2), .int (I32 x3)] S n mu la (Dt (some (.int (I32 v))) S n mu' la)) (h1 : f ≠ 0 → CtX G l yX8_cellsIf wsX8_cellsIf 7 [.ref a, .int (I32 x1), .int (I32 x2), .int (I32 x3)] S n mu la (exn f)) :
    Ct G l yL_cellsIf wsL_cellsIf 9 1 6 [.ref a, .int (I32 x1), .int (I32 x2), .int (I32 x3), .ref o] S n mu la (Lp S c (if f = 0 then mu' else mu) (if f = 0 then upl la o 0 (I32 v).toInt64 else la)) := by
  rcases hc with ⟨rfl, rfl⟩ | ⟨rfl, rfl⟩ | ⟨rfl, rfl⟩ | ⟨rfl, rfl⟩
  · exact L_cellsIf_k hG hO hA hfc (h0 rfl)
  · exact L_cellsIf_x1 hG hGN hA (h1 (by decide))
  · exact L_cellsIf_x2 hG hGN hA (h1 (by decide))
  · exact L_cellsIf_x3 hG hGN hA (h1 (by decide))
set_option maxRecDepth 20000 in
theorem ggL_bestSide_X8_bestSide : GoodIn wsL_bestSide wsX8_bestSide := goodIn_ca (goodIn_ca (goodIn_ca (goodIn_r _ [8, 9, 10, 11, 7, 12, 13, 14, 15, 16, 17, 18, 19, 20, 21, 22, 23, 24, 25, 26, 27, 28, 29, 30, 31, 32, 33, 34, 35, 36, 37, 38, 39, 40, 41, 42, 43, 44, 45, 46, 47, 48, 49, 50, 51, 52, 53, 54, 55, 56, 57, 58, 59, 60, 61, 62, 63, 64, 65, 66, 67, 68, 69, 70, 71, 72, 73, 74, 75, 76, 77, 78, 79, 80, 81, 82, 83, 84, 85, 86, 87, 88, 89, 90, 91, 92, 93, 94, 95, 96, 97, 98, 99, 100, 101, 102, 103, 104, 105, 106, 107, 108, 109, 110, 111, 112, 113, 114, 115, 116, 117, 118, 119, 120, 121, 122, 123, 124, 125, 126, 127, 128, 129, 130, 131, 132, 133, 134, 135, 136, 137, 138, 139, 140, 141, 142, 143, 144, 145, 146, 147, 148, 149, 150, 151, 152, 153, 154, 155, 156, 157, 158, 159, 160, 161, 162, 163, 164, 165, 166, 167, 168, 169, 170, 171, 172, 173, 174, 175, 176, 177, 178, 179, 180, 181, 182, 183, 184, 185, 186, 187, 188, 189, 190, 191, 192, 193, 194, 195, 196, 197, 198, 199, 200, 201, 202, 203, 204, 205, 206, 207, 208, 209, 210, 211, 212, 213, 214, 215, 216, 217, 218, 219, 220, 221, 222, 223, 224, 225, 226, 227, 228, 229, 230, 231, 232, 233, 234, 235, 236, 237, 238, 239, 240, 241, 242, 243, 244, 245, 246, 247, 248, 249, 250, 251, 252, 253, 254, 255, 256, 257, 258, 259, 260, 261, 262, 263, 264, 265, 266, 267, 268, 269, 270, 271, 272, 273, 274, 275, 276, 277, 278, 279, 280, 281, 282, 283, 284, 285, 286, 287, 288, 289, 290, 291, 292, 293, 294, 295, 296, 297, 298, 299, 300, 301, 302, 303, 304, 305, 306, 307, 308, 309, 310, 311] (by decide +kernel) (by decide +kernel)) (goodIn_sub (fun _ h => List.mem_cons_of_mem _ (List.mem_append_left _ (List.mem_append_left _ (List.mem_append_right _ h)))) (by decide +kernel))) (goodIn_sub (fun _ h => List.mem_cons_of_mem _ (List.mem_append_left _ (List.mem_append_right _ h))) (by decide +kernel))) (goodIn_sub (fun _ h => List.mem_cons_of_mem _ (List.mem_append_right _ h)) (by decide +kernel))
set_option maxRecDepth 20000 in
theorem gL_bestSide_X8_bestSide : GoodIn wsL_bestSide (wsV RL 88 RX8 yX8_bestSide wsX8_bestSide) := goodIn_app (goodIn_of _ (by decide +kernel)) ggL_bestSide_X8_bestSide
theorem dL_bestSide_0 : decode cL_bestSide 0 = .ok (.aload_n 3, 1) := by decide +kernel
theorem dL_bestSide_1 : decode cL_bestSide 1 = .ok (.iconst 0, 1) := by decide +kernel
theorem dL_bestSide_2 : decode cL_bestSide 2 = .ok (.aload_n 0, 1) := by decide +kernel
theorem dL_bestSide_3 : decode cL_bestSide 3 = .ok (.iload_n 1, 1) := by decide +kernel
theorem dL_bestSide_4 : decode cL_bestSide 4 = .ok (.iload_n 2, 1) := by decide +kernel
theorem dL_bestSide_5 : decode cL_bestSide 5 = .ok (.invokevirtual 88, 3) := by decide +kernel
theorem dL_bestSide_8 : decode cL_bestSide 8 = .ok (.i2l, 1) := by decide +kernel
theorem dL_bestSide_9 : decode cL_bestSide 9 = .ok (.lastore, 1) := by decide +kernel
theorem dL_bestSide_10 : decode cL_bestSide 10 = .ok (.goto 15, 3) := by decide +kernel
theorem dL_bestSide_13 : decode cL_bestSide 13 = .ok (.astore 4, 2) := by decide +kernel
theorem dL_bestSide_15 : decode cL_bestSide 15 = .ok (.iconst 1, 1) := by decide +kernel
theorem dL_bestSide_16 : decode cL_bestSide 16 = .ok (.ireturn, 1) := by decide +kernel
theorem dL_bestSide_17 : decode cL_bestSide 17 = .ok (.astore 4, 2) := by decide +kernel
theorem dL_bestSide_19 : decode cL_bestSide 19 = .ok (.iconst 2, 1) := by decide +kernel
theorem dL_bestSide_20 : decode cL_bestSide 20 = .ok (.ireturn, 1) := by decide +kernel
theorem dL_bestSide_21 : decode cL_bestSide 21 = .ok (.astore 4, 2) := by decide +kernel
theorem dL_bestSide_23 : decode cL_bestSide 23 = .ok (.iconst 3, 1) := by decide +kernel
theorem dL_bestSide_24 : decode cL_bestSide 24 = .ok (.ireturn, 1) := by decide +kernel
theorem dL_bestSide_25 : decode cL_bestSide 25 = .ok (.iconst 0, 1) := by decide +kernel
theorem dL_bestSide_26 : decode cL_bestSide 26 = .ok (.ireturn, 1) := by decide +kernel
theorem L_bestSide_k (hG : GP G) (hO : hasS S o (.inl (1, 1))) (hA : hasS S a (.inr (.inr (6, ks)))) (hfc : fc ≤ 8) {x1 x2 : Int} (hM : Ct G l yX8_bestSide wsX8_bestSide fc 0 0 [.ref a, .int (I32 x1), .int (I32 x2)] S n mu la (Dt (some (.int (I32 v))) S n mu' la)) : Ct G l yL_bestSide wsL_bestSide 9 1 6 [.ref a, .int (I32 x1), .int (I32 x2), .ref o] S n mu la (Lp S 0 mu' (upl la o 0 (I32 v).toInt64)) := by
  refine Ct.ofH (cc := cL_bestSide) (nL := 5) (ret := some .int) (hh := [(0, 10, 13, 24), (0, 10, 17, 13), (0, 10, 21, 18)]) [some (.ref a), some (.int (I32 x1)), some (.int (I32 x2)), some (.ref o), none] hG (by decide) rfl (Nat.le_of_ble_eq_true rfl) rfl ?_
  rintro X rfl rfl C ht hcl hsl E
  refine V_aload_n C dL_bestSide_0 rfl ?_
  refine V_iconst C dL_bestSide_1 ?_
  refine V_aload_n C dL_bestSide_2 rfl ?_
  refine V_iload_n C dL_bestSide_3 rfl ?_
  refine V_iload_n C dL_bestSide_4 rfl ?_
  refine V_callVD (nA := 2) C dL_bestSide_5 hM gL_bestSide_X8_bestSide rfl hA rfl (by decide +kernel) rfl (by omega) (by decide) (Nat.le_of_ble_eq_true rfl) ⟨by omega, by omega⟩ rfl ?_
  refine V_i2l C dL_bestSide_8 ?_
  refine V_last C dL_bestSide_9 hO (by decide) (by decide) ?_
  refine V_goto C 25 dL_bestSide_10 (by decide) ?_
  refine V_iconst C dL_bestSide_25 ?_
  exact V_ireturn C E dL_bestSide_26 (by omega) (by omega) ⟨rfl, rfl, rfl, rfl⟩
theorem L_bestSide_x1 (hG : GP G) (hGN : GN G) (hA : hasS S a (.inr (.inr (6, ks)))) {x1 x2 : Int} (hM : CtX G l yX8_bestSide wsX8_bestSide 7 [.ref a, .int (I32 x1), .int (I32 x2)] S n mu la xE1) : Ct G l yL_bestSide wsL_bestSide 9 1 6 [.ref a, .int (I32 x1), .int (I32 x2), .ref o] S n mu la (Lp S 1 mu la) := by
  refine Ct.ofH (cc := cL_bestSide) (nL := 5) (ret := some .int) (hh := [(0, 10, 13, 24), (0, 10, 17, 13), (0, 10, 21, 18)]) [some (.ref a), some (.int (I32 x1)), some (.int (I32 x2)), some (.ref o), none] hG (by decide) rfl (Nat.le_of_ble_eq_true rfl) rfl ?_
  rintro X rfl rfl C ht hcl hsl E
  have hN := hGN _ C.pe.2.2
  refine V_aload_n C dL_bestSide_0 rfl ?_
  refine V_iconst C dL_bestSide_1 ?_
  refine V_aload_n C dL_bestSide_2 rfl ?_
  refine V_iload_n C dL_bestSide_3 rfl ?_
  refine V_iload_n C dL_bestSide_4 rfl ?_
  refine V_callVC (nA := 2) C dL_bestSide_5 hM gL_bestSide_X8_bestSide rfl hA rfl (by decide +kernel) rfl (by omega) (by decide) (Nat.le_of_ble_eq_true rfl) ⟨by omega, by omega⟩ rfl (name := xE1) [] ⟨0, 10, 13, 24⟩ [⟨0, 10, 17, 13⟩, ⟨0, 10, 21, 18⟩] ht ?_ (by decide) (by decide) (C.ts _ (by decide +kernel)) (cast_self hN.1.1) (fun q9 n9 => ?_)
  · exact fun _ h9 => absurd h9 List.not_mem_nil
  · refine V_astore C dL_bestSide_13 rfl (by decide) ?_
    refine V_iconst C dL_bestSide_15 ?_
    exact V_ireturn C E dL_bestSide_16 (by omega) (by omega) ⟨rfl, rfl, rfl, rfl⟩
theorem L_bestSide_x2 (hG : GP G) (hGN : GN G) (hA : hasS S a (.inr (.inr (6, ks)))) {x1 x2 : Int} (hM : CtX G l yX8_bestSide wsX8_bestSide 7 [.ref a, .int (I32 x1), .int (I32 x2)] S n mu la xE2) : Ct G l yL_bestSide wsL_bestSide 9 1 6 [.ref a, .int (I32 x1), .int (I32 x2), .ref o] S n mu la (Lp S 2 mu la) := by
  refine Ct.ofH (cc := cL_bestSide) (nL := 5) (ret := some .int) (hh := [(0, 10, 13, 24), (0, 10, 17, 13), (0, 10, 21, 18)]) [some (.ref a), some (.int (I32 x1)), some (.int (I32 x2)), some (.ref o), none] hG (by decide) rfl (Nat.le_of_ble_eq_true rfl) rfl ?_
  rintro X rfl rfl C ht hcl hsl E
  have hN := hGN _ C.pe.2.2
  refine V_aload_n C dL_bestSide_0 rfl ?_
  refine V_iconst C dL_bestSide_1 ?_
  refine V_aload_n C dL_bestSide_2 rfl ?_
  refine V_iload_n C dL_bestSide_3 rfl ?_
  refine V_iload_n C dL_bestSide_4 rfl ?_
  refine V_callVC (nA := 2) C dL_bestSide_5 hM gL_bestSide_X8_bestSide rfl hA rfl (by decide +kernel) rfl (by omega) (by decide) (Nat.le_of_ble_eq_true rfl) ⟨by omega, by omega⟩ rfl (name := xE2) [⟨0, 10, 13, 24⟩] ⟨0, 10, 17, 13⟩ [⟨0, 10, 21, 18⟩] ht ?_ (by decide) (by decide) (C.ts _ (by decide +kernel)) (cast_self hN.2.1.1) (fun q9 n9 => ?_)
  · exact List.forall_mem_cons.mpr ⟨Or.inr ⟨by decide, xE1, C.ts _ (by decide +kernel), hN.2.1.1⟩, fun _ h9 => absurd h9 List.not_mem_nil⟩
  · refine V_astore C dL_bestSide_17 rfl (by decide) ?_
    refine V_iconst C dL_bestSide_19 ?_
    exact V_ireturn C E dL_bestSide_20 (by omega) (by omega) ⟨rfl, rfl, rfl, rfl⟩
theorem L_bestSide_x3 (hG : GP G) (hGN : GN G) (hA : hasS S a (.inr (.inr (6, ks)))) {x1 x2 : Int} (hM : CtX G l yX8_bestSide wsX8_bestSide 7 [.ref a, .int (I32 x1), .int (I32 x2)] S n mu la xE3) : Ct G l yL_bestSide wsL_bestSide 9 1 6 [.ref a, .int (I32 x1), .int (I32 x2), .ref o] S n mu la (Lp S 3 mu la) := by
  refine Ct.ofH (cc := cL_bestSide) (nL := 5) (ret := some .int) (hh := [(0, 10, 13, 24), (0, 10, 17, 13), (0, 10, 21, 18)]) [some (.ref a), some (.int (I32 x1)), some (.int (I32 x2)), some (.ref o), none] hG (by decide) rfl (Nat.le_of_ble_eq_true rfl) rfl ?_
  rintro X rfl rfl C ht hcl hsl E
  have hN := hGN _ C.pe.2.2
  refine V_aload_n C dL_bestSide_0 rfl ?_
  refine V_iconst C dL_bestSide_1 ?_
  refine V_aload_n C dL_bestSide_2 rfl ?_
  refine V_iload_n C dL_bestSide_3 rfl ?_
  refine V_iload_n C dL_bestSide_4 rfl ?_
  refine V_callVC (nA := 2) C dL_bestSide_5 hM gL_bestSide_X8_bestSide rfl hA rfl (by decide +kernel) rfl (by omega) (by decide) (Nat.le_of_ble_eq_true rfl) ⟨by omega, by omega⟩ rfl (name := xE3) [⟨0, 10, 13, 24⟩, ⟨0, 10, 17, 13⟩] ⟨0, 10, 21, 18⟩ [] ht ?_ (by decide) (by decide) (C.ts _ (by decide +kernel)) (cast_self hN.2.2.1) (fun q9 n9 => ?_)
  · exact List.forall_mem_cons.mpr ⟨Or.inr ⟨by decide, xE1, C.ts _ (by decide +kernel), hN.2.2.1⟩, List.forall_mem_cons.mpr ⟨Or.inr ⟨by decide, xE2, C.ts _ (by decide +kernel), hN.2.2.2⟩, fun _ h9 => absurd h9 List.not_mem_nil⟩⟩
  · refine V_astore C dL_bestSide_21 rfl (by decide) ?_
    refine V_iconst C dL_bestSide_23 ?_
    exact V_ireturn C E dL_bestSide_24 (by omega) (by omega) ⟨rfl, rfl, rfl, rfl⟩
theorem L_bestSide (hG : GP G) (hGN : GN G) (hO : hasS S o (.inl (1, 1))) (hA : hasS S a (.inr (.inr (6, ks)))) (hfc : fc ≤ 8) {x1 x2 : Int} {f c : Int} (hc : (f = 0 ∧ c = 0) ∨ (f = 1 ∧ c = 1) ∨ (f = 2 ∧ c = 2) ∨ (f = 3 ∧ c = 3)) (h0 : f = 0 → Ct G l yX8_bestSide wsX8_bestSide fc 0 0 [.ref a, .int (I32 x1), .int (I32 x2)] S n mu la (Dt (some (.int (I32 v))) S n mu' la)) (h1 : f ≠ 0 → CtX G l yX8_bestSide wsX8_bestSide 7 [.ref a, .int (I32 x1), .int (I32 x2)] S n mu la (exn f)) :
    Ct G l yL_bestSide wsL_bestSide 9 1 6 [.ref a, .int (I32 x1), .int (I32 x2), .ref o] S n mu la (Lp S c (if f = 0 then mu' else mu) (if f = 0 then upl la o 0 (I32 v).toInt64 else la)) := by
  rcases hc with ⟨rfl, rfl⟩ | ⟨rfl, rfl⟩ | ⟨rfl, rfl⟩ | ⟨rfl, rfl⟩
  · exact L_bestSide_k hG hO hA hfc (h0 rfl)
  · exact L_bestSide_x1 hG hGN hA (h1 (by decide))
  · exact L_bestSide_x2 hG hGN hA (h1 (by decide))
  · exact L_bestSide_x3 hG hGN hA (h1 (by decide))
set_option maxRecDepth 20000 in
theorem ggL_type_X8_type : GoodIn wsL_type wsX8_type := goodIn_ca (goodIn_ca (goodIn_ca (goodIn_r _ [7, 8, 9, 10, 11, 6, 12, 13, 14, 15, 16, 17, 18, 19, 20, 21, 22, 23, 24, 25, 26, 27, 28, 29, 30, 31, 32, 33, 34, 35, 36, 37, 38, 39, 40, 41, 42, 43, 44, 45, 46, 47, 48, 49, 50, 51, 52, 53] (by decide +kernel) (by decide +kernel)) (goodIn_sub (fun _ h => List.mem_cons_of_mem _ (List.mem_append_left _ (List.mem_append_left _ (List.mem_append_right _ h)))) (by decide +kernel))) (goodIn_sub (fun _ h => List.mem_cons_of_mem _ (List.mem_append_left _ (List.mem_append_right _ h))) (by decide +kernel))) (goodIn_sub (fun _ h => List.mem_cons_of_mem _ (List.mem_append_right _ h)) (by decide +kernel))
set_option maxRecDepth 20000 in
theorem gL_type_X8_type : GoodIn wsL_type (wsV RL 91 RX8 yX8_type wsX8_type) := goodIn_app (goodIn_of _ (by decide +kernel)) ggL_type_X8_type
theorem dL_type_0 : decode cL_type 0 = .ok (.aload_n 2, 1) := by decide +kernel
theorem dL_type_1 : decode cL_type 1 = .ok (.iconst 0, 1) := by decide +kernel
theorem dL_type_2 : decode cL_type 2 = .ok (.aload_n 0, 1) := by decide +kernel
theorem dL_type_3 : decode cL_type 3 = .ok (.iload_n 1, 1) := by decide +kernel
theorem dL_type_4 : decode cL_type 4 = .ok (.invokevirtual 91, 3) := by decide +kernel
theorem dL_type_7 : decode cL_type 7 = .ok (.i2l, 1) := by decide +kernel
theorem dL_type_8 : decode cL_type 8 = .ok (.lastore, 1) := by decide +kernel
theorem dL_type_9 : decode cL_type 9 = .ok (.goto 9, 3) := by decide +kernel
theorem dL_type_12 : decode cL_type 12 = .ok (.astore_n 3, 1) := by decide +kernel
theorem dL_type_13 : decode cL_type 13 = .ok (.iconst 1, 1) := by decide +kernel
theorem dL_type_14 : decode cL_type 14 = .ok (.ireturn, 1) := by decide +kernel
theorem dL_type_15 : decode cL_type 15 = .ok (.astore_n 3, 1) := by decide +kernel
theorem dL_type_16 : decode cL_type 16 = .ok (.iconst 2, 1) := by decide +kernel
theorem dL_type_17 : decode cL_type 17 = .ok (.ireturn, 1) := by decide +kernel
theorem dL_type_18 : decode cL_type 18 = .ok (.iconst 0, 1) := by decide +kernel
theorem dL_type_19 : decode cL_type 19 = .ok (.ireturn, 1) := by decide +kernel
theorem L_type_k (hG : GP G) (hO : hasS S o (.inl (1, 1))) (hA : hasS S a (.inr (.inr (6, ks)))) (hfc : fc ≤ 8) {x1 : Int} (hM : Ct G l yX8_type wsX8_type fc 0 0 [.ref a, .int (I32 x1)] S n mu la (Dt (some (.int (I32 v))) S n mu' la)) : Ct G l yL_type wsL_type 9 1 6 [.ref a, .int (I32 x1), .ref o] S n mu la (Lp S 0 mu' (upl la o 0 (I32 v).toInt64)) := by
  refine Ct.ofH (cc := cL_type) (nL := 4) (ret := some .int) (hh := [(0, 9, 12, 13), (0, 9, 15, 18)]) [some (.ref a), some (.int (I32 x1)), some (.ref o), none] hG (by decide) rfl (Nat.le_of_ble_eq_true rfl) rfl ?_
  rintro X rfl rfl C ht hcl hsl E
  refine V_aload_n C dL_type_0 rfl ?_
  refine V_iconst C dL_type_1 ?_
  refine V_aload_n C dL_type_2 rfl ?_
  refine V_iload_n C dL_type_3 rfl ?_
  refine V_callVD (nA := 1) C dL_type_4 hM gL_type_X8_type rfl hA rfl (by decide +kernel) rfl (by omega) (by decide) (Nat.le_of_ble_eq_true rfl) ⟨by omega, by omega⟩ rfl ?_
  refine V_i2l C dL_type_7 ?_
  refine V_last C dL_type_8 hO (by decide) (by decide) ?_
  refine V_goto C 18 dL_type_9 (by decide) ?_
  refine V_iconst C dL_type_18 ?_
  exact V_ireturn C E dL_type_19 (by omega) (by omega) ⟨rfl, rfl, rfl, rfl⟩
theorem L_type_x2 (hG : GP G) (hGN : GN G) (hA : hasS S a (.inr (.inr (6, ks)))) {x1 : Int} (hM : CtX G l yX8_type wsX8_type 7 [.ref a, .int (I32 x1)] S n mu la xE2) : Ct G l yL_type wsL_type 9 1 6 [.ref a, .int (I32 x1), .ref o] S n mu la (Lp S 1 mu la) := by
  refine Ct.ofH (cc := cL_type) (nL := 4) (ret := some .int) (hh := [(0, 9, 12, 13), (0, 9, 15, 18)]) [some (.ref a), some (.int (I32 x1)), some (.ref o), none] hG (by decide) rfl (Nat.le_of_ble_eq_true rfl) rfl ?_
  rintro X rfl rfl C ht hcl hsl E
  have hN := hGN _ C.pe.2.2
  refine V_aload_n C dL_type_0 rfl ?_
  refine V_iconst C dL_type_1 ?_
  refine V_aload_n C dL_type_2 rfl ?_
  refine V_iload_n C dL_type_3 rfl ?_
  refine V_callVC (nA := 1) C dL_type_4 hM gL_type_X8_type rfl hA rfl (by decide +kernel) rfl (by omega) (by decide) (Nat.le_of_ble_eq_true rfl) ⟨by omega, by omega⟩ rfl (name := xE2) [] ⟨0, 9, 12, 13⟩ [⟨0, 9, 15, 18⟩] ht ?_ (by decide) (by decide) (C.ts _ (by decide +kernel)) (cast_self hN.2.1.1) (fun q9 n9 => ?_)
  · exact fun _ h9 => absurd h9 List.not_mem_nil
  · refine V_astore_n C dL_type_12 rfl (by decide) ?_
    refine V_iconst C dL_type_13 ?_
    exact V_ireturn C E dL_type_14 (by omega) (by omega) ⟨rfl, rfl, rfl, rfl⟩
theorem L_type_x3 (hG : GP G) (hGN : GN G) (hA : hasS S a (.inr (.inr (6, ks)))) {x1 : Int} (hM : CtX G l yX8_type wsX8_type 7 [.ref a, .int (I32 x1)] S n mu la xE3) : Ct G l yL_type wsL_type 9 1 6 [.ref a, .int (I32 x1), .ref o] S n mu la (Lp S 2 mu la) := by
  refine Ct.ofH (cc := cL_type) (nL := 4) (ret := some .int) (hh := [(0, 9, 12, 13), (0, 9, 15, 18)]) [some (.ref a), some (.int (I32 x1)), some (.ref o), none] hG (by decide) rfl (Nat.le_of_ble_eq_true rfl) rfl ?_
  rintro X rfl rfl C ht hcl hsl E
  have hN := hGN _ C.pe.2.2
  refine V_aload_n C dL_type_0 rfl ?_
  refine V_iconst C dL_type_1 ?_
  refine V_aload_n C dL_type_2 rfl ?_
  refine V_iload_n C dL_type_3 rfl ?_
  refine V_callVC (nA := 1) C dL_type_4 hM gL_type_X8_type rfl hA rfl (by decide +kernel) rfl (by omega) (by decide) (Nat.le_of_ble_eq_true rfl) ⟨by omega, by omega⟩ rfl (name := xE3) [⟨0, 9, 12, 13⟩] ⟨0, 9, 15, 18⟩ [] ht ?_ (by decide) (by decide) (C.ts _ (by decide +kernel)) (cast_self hN.2.2.1) (fun q9 n9 => ?_)
  · exact List.forall_mem_cons.mpr ⟨Or.inr ⟨by decide, xE2, C.ts _ (by decide +kernel), hN.2.2.2⟩, fun _ h9 => absurd h9 List.not_mem_nil⟩
  · refine V_astore_n C dL_type_15 rfl (by decide) ?_
    refine V_iconst C dL_type_16 ?_
    exact V_ireturn C E dL_type_17 (by omega) (by omega) ⟨rfl, rfl, rfl, rfl⟩
theorem L_type (hG : GP G) (hGN : GN G) (hO : hasS S o (.inl (1, 1))) (hA : hasS S a (.inr (.inr (6, ks)))) (hfc : fc ≤ 8) {x1 : Int} {f c : Int} (hc : (f = 0 ∧ c = 0) ∨ (f = 2 ∧ c = 1) ∨ (f = 3 ∧ c = 2)) (h0 : f = 0 → Ct G l yX8_type wsX8_type fc 0 0 [.ref a, .int (I32 x1)] S n mu la (Dt (some (.int (I32 v))) S n mu' la)) (h1 : f ≠ 0 → CtX G l yX8_type wsX8_type 7 [.ref a, .int (I32 x1)] S n mu la (exn f)) :
    Ct G l yL_type wsL_type 9 1 6 [.ref a, .int (I32 x1), .ref o] S n mu la (Lp S c (if f = 0 then mu' else mu) (if f = 0 then upl la o 0 (I32 v).toInt64 else la)) := by
  rcases hc with ⟨rfl, rfl⟩ | ⟨rfl, rfl⟩ | ⟨rfl, rfl⟩
  · exact L_type_k hG hO hA hfc (h0 rfl)
  · exact L_type_x2 hG hGN hA (h1 (by decide))
  · exact L_type_x3 hG hGN hA (h1 (by decide))
set_option maxRecDepth 20000 in
theorem ggL_undo_X8_undo : GoodIn wsL_undo wsX8_undo := goodIn_ca (goodIn_ca (goodIn_ca (goodIn_r _ [6, 7, 8, 9, 10, 11, 12, 13, 14, 15, 16, 5, 17, 18, 19, 20, 21, 22, 23, 24, 25, 26, 27, 28, 29, 30, 31, 32, 33, 34, 35, 36, 37, 38, 39, 40, 41, 42, 43, 44, 45, 46, 47, 48, 49, 50, 51, 52, 53, 54, 55, 56, 57, 58, 59, 60, 61, 62, 63, 64, 65, 66, 67, 68, 69, 70, 71, 72, 73, 74, 75, 76, 77, 78, 79, 80, 81, 82, 83, 84, 85, 86, 87, 88, 89, 90, 91, 92, 93, 94, 95, 96, 97, 98, 99, 100, 101, 102, 103, 104, 105, 106, 107, 108, 109, 110, 111, 112, 113, 114, 115, 116, 117, 118, 119, 120, 121, 122, 123, 124, 125, 126, 127, 128, 129, 130, 131, 132, 133, 134, 135, 136, 137, 138, 139, 140, 141, 142, 143, 144, 145, 146, 147, 148, 149, 150, 151, 152, 153, 154, 155, 156, 157, 158, 159, 160, 161, 162, 163, 164, 165, 166, 167, 168, 169, 170, 171, 172, 173, 174, 175, 176, 177, 178, 179, 180, 181, 182, 183, 184, 185, 186, 187, 188, 189, 190, 191, 192, 193, 194, 195, 196, 197, 198, 199, 200, 201, 202, 203, 204, 205, 206, 207, 208, 209, 210, 211, 212, 213, 214, 215, 216, 217, 218, 219, 220, 221, 222, 223, 224, 225, 226, 227, 228, 229, 230, 231, 232, 233, 234, 235, 236, 237, 238, 239, 240, 241, 242, 243, 244, 245, 246, 247, 248, 249, 250, 251, 252, 253, 254, 255, 256, 257, 258, 259, 260, 261, 262, 263, 264, 265, 266, 267, 268, 269, 270] (by decide +kernel) (by decide +kernel)) (goodIn_sub (fun _ h => List.mem_cons_of_mem _ (List.mem_append_left _ (List.mem_append_left _ (List.mem_append_right _ h)))) (by decide +kernel))) (goodIn_sub (fun _ h => List.mem_cons_of_mem _ (List.mem_append_left _ (List.mem_append_right _ h))) (by decide +kernel))) (goodIn_sub (fun _ h => List.mem_cons_of_mem _ (List.mem_append_right _ h)) (by decide +kernel))
set_option maxRecDepth 20000 in
theorem gL_undo_X8_undo : GoodIn wsL_undo (wsV RL 94 RX8 yX8_undo wsX8_undo) := goodIn_app (goodIn_of _ (by decide +kernel)) ggL_undo_X8_undo
theorem dL_undo_0 : decode cL_undo 0 = .ok (.aload_n 1, 1) := by decide +kernel
theorem dL_undo_1 : decode cL_undo 1 = .ok (.iconst 0, 1) := by decide +kernel
theorem dL_undo_2 : decode cL_undo 2 = .ok (.aload_n 0, 1) := by decide +kernel
theorem dL_undo_3 : decode cL_undo 3 = .ok (.invokevirtual 94, 3) := by decide +kernel
theorem dL_undo_6 : decode cL_undo 6 = .ok (.i2l, 1) := by decide +kernel
theorem dL_undo_7 : decode cL_undo 7 = .ok (.lastore, 1) := by decide +kernel
theorem dL_undo_8 : decode cL_undo 8 = .ok (.goto 6, 3) := by decide +kernel
theorem dL_undo_11 : decode cL_undo 11 = .ok (.astore_n 2, 1) := by decide +kernel
theorem dL_undo_12 : decode cL_undo 12 = .ok (.iconst 1, 1) := by decide +kernel
theorem dL_undo_13 : decode cL_undo 13 = .ok (.ireturn, 1) := by decide +kernel
theorem dL_undo_14 : decode cL_undo 14 = .ok (.iconst 0, 1) := by decide +kernel
theorem dL_undo_15 : decode cL_undo 15 = .ok (.ireturn, 1) := by decide +kernel
theorem L_undo_k (hG : GP G) (hO : hasS S o (.inl (1, 1))) (hA : hasS S a (.inr (.inr (6, ks)))) (hfc : fc ≤ 8) (hM : Ct G l yX8_undo wsX8_undo fc 0 0 [.ref a] S n mu la (Dt (some (.int (I32 v))) S n mu' la)) : Ct G l yL_undo wsL_undo 9 1 6 [.ref a, .ref o] S n mu la (Lp S 0 mu' (upl la o 0 (I32 v).toInt64)) := by
  refine Ct.ofH (cc := cL_undo) (nL := 3) (ret := some .int) (hh := [(0, 8, 11, 18)]) [some (.ref a), some (.ref o), none] hG (by decide) rfl (Nat.le_of_ble_eq_true rfl) rfl ?_
  rintro X rfl rfl C ht hcl hsl E
  refine V_aload_n C dL_undo_0 rfl ?_
  refine V_iconst C dL_undo_1 ?_
  refine V_aload_n C dL_undo_2 rfl ?_
  refine V_callVD (nA := 0) C dL_undo_3 hM gL_undo_X8_undo rfl hA rfl (by decide +kernel) rfl (by omega) (by decide) (Nat.le_of_ble_eq_true rfl) ⟨by omega, by omega⟩ rfl ?_
  refine V_i2l C dL_undo_6 ?_
  refine V_last C dL_undo_7 hO (by decide) (by decide) ?_
  refine V_goto C 14 dL_undo_8 (by decide) ?_
  refine V_iconst C dL_undo_14 ?_
  exact V_ireturn C E dL_undo_15 (by omega) (by omega) ⟨rfl, rfl, rfl, rfl⟩
theorem L_undo_x3 (hG : GP G) (hGN : GN G) (hA : hasS S a (.inr (.inr (6, ks)))) (hM : CtX G l yX8_undo wsX8_undo 7 [.ref a] S n mu la xE3) : Ct G l yL_undo wsL_undo 9 1 6 [.ref a, .ref o] S n mu la (Lp S 1 mu la) := by
  refine Ct.ofH (cc := cL_undo) (nL := 3) (ret := some .int) (hh := [(0, 8, 11, 18)]) [some (.ref a), some (.ref o), none] hG (by decide) rfl (Nat.le_of_ble_eq_true rfl) rfl ?_
  rintro X rfl rfl C ht hcl hsl E
  have hN := hGN _ C.pe.2.2
  refine V_aload_n C dL_undo_0 rfl ?_
  refine V_iconst C dL_undo_1 ?_
  refine V_aload_n C dL_undo_2 rfl ?_
  refine V_callVC (nA := 0) C dL_undo_3 hM gL_undo_X8_undo rfl hA rfl (by decide +kernel) rfl (by omega) (by decide) (Nat.le_of_ble_eq_true rfl) ⟨by omega, by omega⟩ rfl (name := xE3) [] ⟨0, 8, 11, 18⟩ [] ht ?_ (by decide) (by decide) (C.ts _ (by decide +kernel)) (cast_self hN.2.2.1) (fun q9 n9 => ?_)
  · exact fun _ h9 => absurd h9 List.not_mem_nil
  · refine V_astore_n C dL_undo_11 rfl (by decide) ?_
    refine V_iconst C dL_undo_12 ?_
    exact V_ireturn C E dL_undo_13 (by omega) (by omega) ⟨rfl, rfl, rfl, rfl⟩
theorem L_undo (hG : GP G) (hGN : GN G) (hO : hasS S o (.inl (1, 1))) (hA : hasS S a (.inr (.inr (6, ks)))) (hfc : fc ≤ 8) {f c : Int} (hc : (f = 0 ∧ c = 0) ∨ (f = 3 ∧ c = 1)) (h0 : f = 0 → Ct G l yX8_undo wsX8_undo fc 0 0 [.ref a] S n mu la (Dt (some (.int (I32 v))) S n mu' la)) (h1 : f ≠ 0 → CtX G l yX8_undo wsX8_undo 7 [.ref a] S n mu la (exn f)) :
    Ct G l yL_undo wsL_undo 9 1 6 [.ref a, .ref o] S n mu la (Lp S c (if f = 0 then mu' else mu) (if f = 0 then upl la o 0 (I32 v).toInt64 else la)) := by
  rcases hc with ⟨rfl, rfl⟩ | ⟨rfl, rfl⟩
  · exact L_undo_k hG hO hA hfc (h0 rfl)
  · exact L_undo_x3 hG hGN hA (h1 (by decide))
end LH
