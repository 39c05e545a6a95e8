/-! THE LAW OF p32: a pane is as the rows tell -/
section VS9
variable {X : Cx} {cc : ByteArray} {Ts : List Cond} {own : String} {ret : Option FieldType} {fr nL : Nat} {pc : Nat} {r : Rg} {st : List Value} {S : Sh} {n : Nat} {mu : Mem} {la : Lam} {k sl : Nat}
/-- the same number on both sides, whatever its size -/
theorem V_icmp_neS (C : Ok X cc Ts own ret fr nL) {x : Int32} {off : Int} {tgt : Nat} (ht : (pc : Int) + off = (tgt : Int)) (hd : decode cc pc = .ok (.if_icmp .ne off, 3))
    (kf : V X (pc + 3) r st S n mu la k sl) : V X pc r (.int x :: .int x :: st) S n mu la k sl := fun H locs ls hH hS hl =>
  lv_icmp_ne C.1 C.2.1 hd ht (fun q => absurd rfl q) (fun _ => kf H locs ls hH hS hl)
theorem V_callSHD (C : Ok X cc Ts own ret fr nL) {index nA maxL fc : Nat} {y : MethodName} {ws ws' : List Cond} {bytes : ByteArray} {rt : Option FieldType} {hh : List (Nat × Nat × Nat × Nat)} {As rest : List Value} {o : Option Value} {S' : Sh} {n' : Nat} {mu' : Mem} {la' : Lam}
    (hd : decode cc pc = .ok (.invokestatic index, 3)) (hM : Ct (xG X) (xL X) y ws fc 0 0 As S n mu la (Dt o S' n' mu' la')) (hG : GoodIn Ts (va_wsS own index y ws)) (hw : ws = Cond.codeWith y bytes maxL rt hh :: ws')
    (hy : y.cls ≠ "java/lang/invoke/MethodHandle" ∧ y.cls ≠ "java/lang/invoke/VarHandle" ∧ (parseMethodDescriptor y.desc).map (fun d => d.parameters.length) = some nA)
    (hn : As.length = nA) (hfr : fc + 1 ≤ fr) (hml : maxL ≤ 11) (hcat : (rest.map fun v => v.category).sum ≤ 8) (hf : k ≤ (xR X).cells ∧ sl ≤ (xR X).slots) {st0 : List Value} (hst : st0 = psh As rest)
    (kk : V X (pc + 3) r (oc o rest) S' n' mu' la' k sl) : V X pc r st0 S n mu la k sl := V_callSH C hd hM hG hw hy hn hfr hml hcat hf hst (V_toD kk)
theorem V_callSHQ (C : Ok X cc Ts own ret fr nL) {index nA maxL fc : Nat} {y : MethodName} {ws ws' : List Cond} {bytes : ByteArray} {rt : Option FieldType} {hh : List (Nat × Nat × Nat × Nat)} {As rest : List Value} {v : Int} {mu' : Mem} {la' : Lam}
    (hd : decode cc pc = .ok (.invokestatic index, 3)) (hM : Ct (xG X) (xL X) y ws fc 1 6 As S n mu la (Lq S v mu' la')) (hG : GoodIn Ts (va_wsS own index y ws)) (hw : ws = Cond.codeWith y bytes maxL rt hh :: ws')
    (hy : y.cls ≠ "java/lang/invoke/MethodHandle" ∧ y.cls ≠ "java/lang/invoke/VarHandle" ∧ (parseMethodDescriptor y.desc).map (fun d => d.parameters.length) = some nA)
    (hn : As.length = nA) (hfr : fc + 1 ≤ fr) (hml : maxL ≤ 11) (hcat : (rest.map fun v => v.category).sum ≤ 8) (hf : k + 1 ≤ (xR X).cells ∧ sl + 6 ≤ (xR X).slots) {st0 : List Value} (hst : st0 = psh As rest)
    (kk : ∀ n' : Nat, V X (pc + 3) r (.int (I32 v) :: rest) S n' mu' la' (k + 1) (sl + 6)) : V X pc r st0 S n mu la k sl := by
  refine V_callSH C hd hM hG hw hy hn hfr hml hcat hf hst ?_
  rintro _ S9 n1 mu9 la9 ⟨q0, q1, q2, q3⟩
  rw [q0, q1, q2, q3]
  exact kk n1
end VS9
section LP
variable {G : Gx} {l : Launch} {S : Sh} {n : Nat} {mu : Mem} {la : Lam} {w o : Nat} {ks : List Sk}
set_option maxRecDepth 20000 in
theorem ggL_isPane_L_state : GoodIn wsL_isPane wsL_state := goodIn_r _ [4, 5, 6, 3, 7] (by decide +kernel) (by decide +kernel)
set_option maxRecDepth 20000 in
theorem gL_isPane_L_state : GoodIn wsL_isPane (va_wsS RL 63 yL_state wsL_state) := goodIn_app (goodIn_of _ (by decide +kernel)) ggL_isPane_L_state
set_option maxRecDepth 20000 in
theorem ggL_isPane_L_paneOf : GoodIn wsL_isPane wsL_paneOf := goodIn_ca (goodIn_ca (goodIn_ca (goodIn_r _ [10, 11, 12, 13, 14, 15, 16, 17, 18, 19, 20, 21, 22, 23, 24, 25, 26, 27, 28, 29, 30, 31, 32, 33, 34, 35, 36, 37, 38, 39, 40, 41, 42, 43, 44, 45, 46, 47, 48, 49, 50, 51, 52, 53, 54, 55, 56, 57, 58, 59, 60, 61, 62, 63, 64, 65, 66, 67, 68, 69, 70, 71, 72, 73, 74, 75, 76, 77, 78, 79, 80, 81, 82, 83, 84, 85, 86, 87, 88, 89, 90, 91, 92, 93, 94, 95, 96, 97, 98, 99, 100, 101, 102, 103, 104, 105, 106, 107, 169, 170, 171, 172, 173, 174, 175, 176, 177, 178, 179, 180, 181, 182, 183, 184, 185, 186, 187, 188, 189, 190, 191, 192, 193, 194, 195, 196, 197, 198, 199, 200, 201, 202] (by decide +kernel) (by decide +kernel)) (goodIn_sub (fun _ h => List.mem_cons_of_mem _ (List.mem_append_left _ (List.mem_append_left _ (List.mem_append_right _ h)))) (by decide +kernel))) (goodIn_sub (fun _ h => List.mem_cons_of_mem _ (List.mem_append_left _ (List.mem_append_right _ h))) (by decide +kernel))) (goodIn_sub (fun _ h => List.mem_cons_of_mem _ (List.mem_append_right _ h)) (by decide +kernel))
set_option maxRecDepth 20000 in
theorem gL_isPane_L_paneOf : GoodIn wsL_isPane (va_wsS RL 173 yL_paneOf wsL_paneOf) := goodIn_app (goodIn_of _ (by decide +kernel)) ggL_isPane_L_paneOf
set_option maxRecDepth 20000 in
theorem ggL_isPane_L_tabOf : GoodIn wsL_isPane wsL_tabOf := goodIn_ca (goodIn_ca (goodIn_ca (goodIn_r _ [110, 11, 12, 13, 14, 111, 112, 113, 18, 114, 20, 21, 22, 23, 24, 115, 116, 117, 28, 29, 30, 31, 32, 33, 34, 35, 36, 51, 52, 53, 48, 54, 50, 43, 44, 118, 119, 120, 121, 89, 169, 170, 171, 172, 173, 174, 175, 176, 177, 178, 179, 180, 181, 182, 183, 184, 185, 186, 187, 188, 189] (by decide +kernel) (by decide +kernel)) (goodIn_sub (fun _ h => List.mem_cons_of_mem _ (List.mem_append_left _ (List.mem_append_left _ (List.mem_append_right _ h)))) (by decide +kernel))) (goodIn_sub (fun _ h => List.mem_cons_of_mem _ (List.mem_append_left _ (List.mem_append_right _ h))) (by decide +kernel))) (goodIn_sub (fun _ h => List.mem_cons_of_mem _ (List.mem_append_right _ h)) (by decide +kernel))
set_option maxRecDepth 20000 in
theorem gL_isPane_L_tabOf : GoodIn wsL_isPane (va_wsS RL 176 yL_tabOf wsL_tabOf) := goodIn_app (goodIn_of _ (by decide +kernel)) ggL_isPane_L_tabOf
set_option maxRecDepth 20000 in
theorem ggL_isPane_L_splitOf : GoodIn wsL_isPane wsL_splitOf := goodIn_ca (goodIn_ca (goodIn_ca (goodIn_r _ [124, 11, 12, 13, 14, 125, 126, 127, 18, 128, 20, 21, 22, 23, 24, 129, 130, 131, 25, 26, 27, 28, 29, 30, 31, 32, 33, 34, 35, 36, 51, 52, 53, 48, 54, 50, 43, 44, 95, 96, 97, 132, 133, 134, 135, 59, 136, 137, 138, 139, 140, 90, 91, 92, 93, 94, 85, 86, 87, 88, 89, 141, 142, 143, 63, 144, 145, 66, 67, 68, 69, 70, 146, 147, 148, 149, 150, 169, 170, 171, 172, 173, 174, 175, 176, 177, 178, 179, 180, 181, 182, 183, 184, 185, 186, 187, 188, 189, 190, 191, 192, 193, 194, 195, 196, 197, 198, 199, 200, 201, 202] (by decide +kernel) (by decide +kernel)) (goodIn_sub (fun _ h => List.mem_cons_of_mem _ (List.mem_append_left _ (List.mem_append_left _ (List.mem_append_right _ h)))) (by decide +kernel))) (goodIn_sub (fun _ h => List.mem_cons_of_mem _ (List.mem_append_left _ (List.mem_append_right _ h))) (by decide +kernel))) (goodIn_sub (fun _ h => List.mem_cons_of_mem _ (List.mem_append_right _ h)) (by decide +kernel))
set_option maxRecDepth 20000 in
theorem gL_isPane_L_splitOf : GoodIn wsL_isPane (va_wsS RL 179 yL_splitOf wsL_splitOf) := goodIn_app (goodIn_of _ (by decide +kernel)) ggL_isPane_L_splitOf
set_option maxRecDepth 20000 in
theorem ggL_isPane_L_signOf : GoodIn wsL_isPane wsL_signOf := goodIn_r _ [7] (by decide +kernel) (by decide +kernel)
set_option maxRecDepth 20000 in
theorem gL_isPane_L_signOf : GoodIn wsL_isPane (va_wsS RL 18 yL_signOf wsL_signOf) := goodIn_app (goodIn_of _ (by decide +kernel)) ggL_isPane_L_signOf
set_option maxRecDepth 20000 in
theorem ggL_isPane_L_up : GoodIn wsL_isPane wsL_up := goodIn_r _ [153] (by decide +kernel) (by decide +kernel)
set_option maxRecDepth 20000 in
theorem gL_isPane_L_up : GoodIn wsL_isPane (va_wsS RL 25 yL_up wsL_up) := goodIn_app (goodIn_of _ (by decide +kernel)) ggL_isPane_L_up
set_option maxRecDepth 20000 in
theorem ggL_isPane_L_kid : GoodIn wsL_isPane wsL_kid := goodIn_r _ [156, 157, 158, 3, 159, 160, 161, 162] (by decide +kernel) (by decide +kernel)
set_option maxRecDepth 20000 in
theorem gL_isPane_L_kid : GoodIn wsL_isPane (va_wsS RL 46 yL_kid wsL_kid) := goodIn_app (goodIn_of _ (by decide +kernel)) ggL_isPane_L_kid
set_option maxRecDepth 20000 in
theorem ggL_isPane_L_kids : GoodIn wsL_isPane wsL_kids := goodIn_r _ [165, 157, 158, 3, 159, 160, 161, 162] (by decide +kernel) (by decide +kernel)
set_option maxRecDepth 20000 in
theorem gL_isPane_L_kids : GoodIn wsL_isPane (va_wsS RL 32 yL_kids wsL_kids) := goodIn_app (goodIn_of _ (by decide +kernel)) ggL_isPane_L_kids
set_option maxRecDepth 20000 in
theorem ggL_isPane_L_tabs : GoodIn wsL_isPane wsL_tabs := goodIn_r _ [168] (by decide +kernel) (by decide +kernel)
set_option maxRecDepth 20000 in
theorem gL_isPane_L_tabs : GoodIn wsL_isPane (va_wsS RL 22 yL_tabs wsL_tabs) := goodIn_app (goodIn_of _ (by decide +kernel)) ggL_isPane_L_tabs
theorem dL_isPane_0 : decode cL_isPane 0 = .ok (.aload_n 1, 1) := by decide +kernel
theorem dL_isPane_1 : decode cL_isPane 1 = .ok (.aload_n 2, 1) := by decide +kernel
theorem dL_isPane_2 : decode cL_isPane 2 = .ok (.aload_n 3, 1) := by decide +kernel
theorem dL_isPane_3 : decode cL_isPane 3 = .ok (.iload 4, 2) := by decide +kernel
theorem dL_isPane_5 : decode cL_isPane 5 = .ok (.invokestatic 63, 3) := by decide +kernel
theorem dL_isPane_8 : decode cL_isPane 8 = .ok (.istore 5, 2) := by decide +kernel
theorem dL_isPane_10 : decode cL_isPane 10 = .ok (.aload_n 3, 1) := by decide +kernel
theorem dL_isPane_11 : decode cL_isPane 11 = .ok (.iconst 4, 1) := by decide +kernel
theorem dL_isPane_12 : decode cL_isPane 12 = .ok (.iload 4, 2) := by decide +kernel
theorem dL_isPane_14 : decode cL_isPane 14 = .ok (.imul, 1) := by decide +kernel
theorem dL_isPane_15 : decode cL_isPane 15 = .ok (.iconst 2, 1) := by decide +kernel
theorem dL_isPane_16 : decode cL_isPane 16 = .ok (.iadd, 1) := by decide +kernel
theorem dL_isPane_17 : decode cL_isPane 17 = .ok (.iaload, 1) := by decide +kernel
theorem dL_isPane_18 : decode cL_isPane 18 = .ok (.istore 6, 2) := by decide +kernel
theorem dL_isPane_20 : decode cL_isPane 20 = .ok (.aload_n 0, 1) := by decide +kernel
theorem dL_isPane_21 : decode cL_isPane 21 = .ok (.iload 4, 2) := by decide +kernel
theorem dL_isPane_23 : decode cL_isPane 23 = .ok (.iconst 0, 1) := by decide +kernel
theorem dL_isPane_24 : decode cL_isPane 24 = .ok (.invokestatic 173, 3) := by decide +kernel
theorem dL_isPane_27 : decode cL_isPane 27 = .ok (.aload_n 3, 1) := by decide +kernel
theorem dL_isPane_28 : decode cL_isPane 28 = .ok (.iconst 4, 1) := by decide +kernel
theorem dL_isPane_29 : decode cL_isPane 29 = .ok (.iload 4, 2) := by decide +kernel
theorem dL_isPane_31 : decode cL_isPane 31 = .ok (.imul, 1) := by decide +kernel
theorem dL_isPane_32 : decode cL_isPane 32 = .ok (.iaload, 1) := by decide +kernel
theorem dL_isPane_33 : decode cL_isPane 33 = .ok (.if_icmp .ne 37, 3) := by decide +kernel
theorem dL_isPane_36 : decode cL_isPane 36 = .ok (.aload_n 0, 1) := by decide +kernel
theorem dL_isPane_37 : decode cL_isPane 37 = .ok (.iload 4, 2) := by decide +kernel
theorem dL_isPane_39 : decode cL_isPane 39 = .ok (.iconst 1, 1) := by decide +kernel
theorem dL_isPane_40 : decode cL_isPane 40 = .ok (.invokestatic 173, 3) := by decide +kernel
theorem dL_isPane_43 : decode cL_isPane 43 = .ok (.aload_n 3, 1) := by decide +kernel
theorem dL_isPane_44 : decode cL_isPane 44 = .ok (.iconst 4, 1) := by decide +kernel
theorem dL_isPane_45 : decode cL_isPane 45 = .ok (.iload 4, 2) := by decide +kernel
theorem dL_isPane_47 : decode cL_isPane 47 = .ok (.imul, 1) := by decide +kernel
theorem dL_isPane_48 : decode cL_isPane 48 = .ok (.iconst 1, 1) := by decide +kernel
theorem dL_isPane_49 : decode cL_isPane 49 = .ok (.iadd, 1) := by decide +kernel
theorem dL_isPane_50 : decode cL_isPane 50 = .ok (.iaload, 1) := by decide +kernel
theorem dL_isPane_51 : decode cL_isPane 51 = .ok (.if_icmp .ne 19, 3) := by decide +kernel
theorem dL_isPane_54 : decode cL_isPane 54 = .ok (.aload_n 0, 1) := by decide +kernel
theorem dL_isPane_55 : decode cL_isPane 55 = .ok (.iload 4, 2) := by decide +kernel
theorem dL_isPane_57 : decode cL_isPane 57 = .ok (.iconst 2, 1) := by decide +kernel
theorem dL_isPane_58 : decode cL_isPane 58 = .ok (.invokestatic 173, 3) := by decide +kernel
theorem dL_isPane_61 : decode cL_isPane 61 = .ok (.iload 5, 2) := by decide +kernel
theorem dL_isPane_63 : decode cL_isPane 63 = .ok (.if_icmp .ne 7, 3) := by decide +kernel
theorem dL_isPane_66 : decode cL_isPane 66 = .ok (.iconst 1, 1) := by decide +kernel
theorem dL_isPane_67 : decode cL_isPane 67 = .ok (.goto 4, 3) := by decide +kernel
theorem dL_isPane_70 : decode cL_isPane 70 = .ok (.iconst 0, 1) := by decide +kernel
theorem dL_isPane_71 : decode cL_isPane 71 = .ok (.istore 7, 2) := by decide +kernel
theorem dL_isPane_73 : decode cL_isPane 73 = .ok (.iload 5, 2) := by decide +kernel
theorem dL_isPane_75 : decode cL_isPane 75 = .ok (.ifCond .eq 8, 3) := by decide +kernel
theorem dL_isPane_78 : decode cL_isPane 78 = .ok (.iload 7, 2) := by decide +kernel
theorem dL_isPane_80 : decode cL_isPane 80 = .ok (.ifCond .ne 72, 3) := by decide +kernel
theorem dL_isPane_83 : decode cL_isPane 83 = .ok (.iload 7, 2) := by decide +kernel
theorem dL_isPane_85 : decode cL_isPane 85 = .ok (.ifCond .eq 65, 3) := by decide +kernel
theorem dL_isPane_88 : decode cL_isPane 88 = .ok (.aload_n 0, 1) := by decide +kernel
theorem dL_isPane_89 : decode cL_isPane 89 = .ok (.iload 4, 2) := by decide +kernel
theorem dL_isPane_91 : decode cL_isPane 91 = .ok (.iconst 3, 1) := by decide +kernel
theorem dL_isPane_92 : decode cL_isPane 92 = .ok (.invokestatic 173, 3) := by decide +kernel
theorem dL_isPane_95 : decode cL_isPane 95 = .ok (.iconst (-1), 1) := by decide +kernel
theorem dL_isPane_96 : decode cL_isPane 96 = .ok (.if_icmp .ne 54, 3) := by decide +kernel
theorem dL_isPane_99 : decode cL_isPane 99 = .ok (.aload_n 0, 1) := by decide +kernel
theorem dL_isPane_100 : decode cL_isPane 100 = .ok (.iload 4, 2) := by decide +kernel
theorem dL_isPane_102 : decode cL_isPane 102 = .ok (.bipush 7, 2) := by decide +kernel
theorem dL_isPane_104 : decode cL_isPane 104 = .ok (.invokestatic 173, 3) := by decide +kernel
theorem dL_isPane_107 : decode cL_isPane 107 = .ok (.iconst (-1), 1) := by decide +kernel
theorem dL_isPane_108 : decode cL_isPane 108 = .ok (.if_icmp .ne 42, 3) := by decide +kernel
theorem dL_isPane_111 : decode cL_isPane 111 = .ok (.aload_n 0, 1) := by decide +kernel
theorem dL_isPane_112 : decode cL_isPane 112 = .ok (.iload 4, 2) := by decide +kernel
theorem dL_isPane_114 : decode cL_isPane 114 = .ok (.bipush 11, 2) := by decide +kernel
theorem dL_isPane_116 : decode cL_isPane 116 = .ok (.invokestatic 173, 3) := by decide +kernel
theorem dL_isPane_119 : decode cL_isPane 119 = .ok (.iconst (-1), 1) := by decide +kernel
theorem dL_isPane_120 : decode cL_isPane 120 = .ok (.if_icmp .ne 30, 3) := by decide +kernel
theorem dL_isPane_123 : decode cL_isPane 123 = .ok (.aload_n 0, 1) := by decide +kernel
theorem dL_isPane_124 : decode cL_isPane 124 = .ok (.iload 4, 2) := by decide +kernel
theorem dL_isPane_126 : decode cL_isPane 126 = .ok (.iconst 0, 1) := by decide +kernel
theorem dL_isPane_127 : decode cL_isPane 127 = .ok (.invokestatic 176, 3) := by decide +kernel
theorem dL_isPane_130 : decode cL_isPane 130 = .ok (.iconst (-1), 1) := by decide +kernel
theorem dL_isPane_131 : decode cL_isPane 131 = .ok (.if_icmp .ne 19, 3) := by decide +kernel
theorem dL_isPane_134 : decode cL_isPane 134 = .ok (.aload_n 0, 1) := by decide +kernel
theorem dL_isPane_135 : decode cL_isPane 135 = .ok (.iload 4, 2) := by decide +kernel
theorem dL_isPane_137 : decode cL_isPane 137 = .ok (.iconst 0, 1) := by decide +kernel
theorem dL_isPane_138 : decode cL_isPane 138 = .ok (.iconst 0, 1) := by decide +kernel
theorem dL_isPane_139 : decode cL_isPane 139 = .ok (.invokestatic 179, 3) := by decide +kernel
theorem dL_isPane_142 : decode cL_isPane 142 = .ok (.iconst (-1), 1) := by decide +kernel
theorem dL_isPane_143 : decode cL_isPane 143 = .ok (.if_icmp .ne 7, 3) := by decide +kernel
theorem dL_isPane_146 : decode cL_isPane 146 = .ok (.iconst 1, 1) := by decide +kernel
theorem dL_isPane_147 : decode cL_isPane 147 = .ok (.goto 4, 3) := by decide +kernel
theorem dL_isPane_150 : decode cL_isPane 150 = .ok (.iconst 0, 1) := by decide +kernel
theorem dL_isPane_151 : decode cL_isPane 151 = .ok (.ireturn, 1) := by decide +kernel
theorem dL_isPane_152 : decode cL_isPane 152 = .ok (.aload_n 1, 1) := by decide +kernel
theorem dL_isPane_153 : decode cL_isPane 153 = .ok (.aload_n 2, 1) := by decide +kernel
theorem dL_isPane_154 : decode cL_isPane 154 = .ok (.iload 6, 2) := by decide +kernel
theorem dL_isPane_156 : decode cL_isPane 156 = .ok (.invokestatic 18, 3) := by decide +kernel
theorem dL_isPane_159 : decode cL_isPane 159 = .ok (.istore 8, 2) := by decide +kernel
theorem dL_isPane_161 : decode cL_isPane 161 = .ok (.iconst 0, 1) := by decide +kernel
theorem dL_isPane_162 : decode cL_isPane 162 = .ok (.istore 9, 2) := by decide +kernel
theorem dL_isPane_164 : decode cL_isPane 164 = .ok (.iload 8, 2) := by decide +kernel
theorem dL_isPane_166 : decode cL_isPane 166 = .ok (.ifCond .lt 12, 3) := by decide +kernel
theorem dL_isPane_169 : decode cL_isPane 169 = .ok (.aload_n 2, 1) := by decide +kernel
theorem dL_isPane_170 : decode cL_isPane 170 = .ok (.iload 8, 2) := by decide +kernel
theorem dL_isPane_172 : decode cL_isPane 172 = .ok (.invokestatic 25, 3) := by decide +kernel
theorem dL_isPane_175 : decode cL_isPane 175 = .ok (.ifCond .ge 7, 3) := by decide +kernel
theorem dL_isPane_178 : decode cL_isPane 178 = .ok (.iconst (-1), 1) := by decide +kernel
theorem dL_isPane_179 : decode cL_isPane 179 = .ok (.goto 11, 3) := by decide +kernel
theorem dL_isPane_182 : decode cL_isPane 182 = .ok (.aload_n 2, 1) := by decide +kernel
theorem dL_isPane_183 : decode cL_isPane 183 = .ok (.iconst 3, 1) := by decide +kernel
theorem dL_isPane_184 : decode cL_isPane 184 = .ok (.iload 8, 2) := by decide +kernel
theorem dL_isPane_186 : decode cL_isPane 186 = .ok (.imul, 1) := by decide +kernel
theorem dL_isPane_187 : decode cL_isPane 187 = .ok (.iconst 1, 1) := by decide +kernel
theorem dL_isPane_188 : decode cL_isPane 188 = .ok (.iadd, 1) := by decide +kernel
theorem dL_isPane_189 : decode cL_isPane 189 = .ok (.iaload, 1) := by decide +kernel
theorem dL_isPane_190 : decode cL_isPane 190 = .ok (.istore 10, 2) := by decide +kernel
theorem dL_isPane_192 : decode cL_isPane 192 = .ok (.iload 8, 2) := by decide +kernel
theorem dL_isPane_194 : decode cL_isPane 194 = .ok (.istore 11, 2) := by decide +kernel
theorem dL_isPane_196 : decode cL_isPane 196 = .ok (.iload 8, 2) := by decide +kernel
theorem dL_isPane_198 : decode cL_isPane 198 = .ok (.ifCond .lt 120, 3) := by decide +kernel
theorem dL_isPane_201 : decode cL_isPane 201 = .ok (.aload_n 2, 1) := by decide +kernel
theorem dL_isPane_202 : decode cL_isPane 202 = .ok (.iload 11, 2) := by decide +kernel
theorem dL_isPane_204 : decode cL_isPane 204 = .ok (.invokestatic 25, 3) := by decide +kernel
theorem dL_isPane_207 : decode cL_isPane 207 = .ok (.ifCond .lt 111, 3) := by decide +kernel
theorem dL_isPane_210 : decode cL_isPane 210 = .ok (.iload 7, 2) := by decide +kernel
theorem dL_isPane_212 : decode cL_isPane 212 = .ok (.ifCond .eq 106, 3) := by decide +kernel
theorem dL_isPane_215 : decode cL_isPane 215 = .ok (.aload_n 2, 1) := by decide +kernel
theorem dL_isPane_216 : decode cL_isPane 216 = .ok (.iload 11, 2) := by decide +kernel
theorem dL_isPane_218 : decode cL_isPane 218 = .ok (.invokestatic 25, 3) := by decide +kernel
theorem dL_isPane_221 : decode cL_isPane 221 = .ok (.istore 12, 2) := by decide +kernel
theorem dL_isPane_223 : decode cL_isPane 223 = .ok (.iconst 0, 1) := by decide +kernel
theorem dL_isPane_224 : decode cL_isPane 224 = .ok (.istore 13, 2) := by decide +kernel
theorem dL_isPane_226 : decode cL_isPane 226 = .ok (.aload_n 2, 1) := by decide +kernel
theorem dL_isPane_227 : decode cL_isPane 227 = .ok (.iload 12, 2) := by decide +kernel
theorem dL_isPane_229 : decode cL_isPane 229 = .ok (.iload 13, 2) := by decide +kernel
theorem dL_isPane_231 : decode cL_isPane 231 = .ok (.invokestatic 46, 3) := by decide +kernel
theorem dL_isPane_234 : decode cL_isPane 234 = .ok (.iload 11, 2) := by decide +kernel
theorem dL_isPane_236 : decode cL_isPane 236 = .ok (.if_icmp .eq 9, 3) := by decide +kernel
theorem dL_isPane_239 : decode cL_isPane 239 = .ok (.iinc 13 1, 3) := by decide +kernel
theorem dL_isPane_242 : decode cL_isPane 242 = .ok (.goto (-16), 3) := by decide +kernel
theorem dL_isPane_245 : decode cL_isPane 245 = .ok (.aload_n 0, 1) := by decide +kernel
theorem dL_isPane_246 : decode cL_isPane 246 = .ok (.iload 4, 2) := by decide +kernel
theorem dL_isPane_248 : decode cL_isPane 248 = .ok (.iload 9, 2) := by decide +kernel
theorem dL_isPane_250 : decode cL_isPane 250 = .ok (.iconst 0, 1) := by decide +kernel
theorem dL_isPane_251 : decode cL_isPane 251 = .ok (.invokestatic 179, 3) := by decide +kernel
theorem dL_isPane_254 : decode cL_isPane 254 = .ok (.aload_n 2, 1) := by decide +kernel
theorem dL_isPane_255 : decode cL_isPane 255 = .ok (.iconst 3, 1) := by decide +kernel
theorem dL_isPane_256 : decode cL_isPane 256 = .ok (.iload 12, 2) := by decide +kernel
theorem dL_isPane_258 : decode cL_isPane 258 = .ok (.imul, 1) := by decide +kernel
theorem dL_isPane_259 : decode cL_isPane 259 = .ok (.iaload, 1) := by decide +kernel
theorem dL_isPane_260 : decode cL_isPane 260 = .ok (.iconst 2, 1) := by decide +kernel
theorem dL_isPane_261 : decode cL_isPane 261 = .ok (.isub, 1) := by decide +kernel
theorem dL_isPane_262 : decode cL_isPane 262 = .ok (.if_icmp .ne 39, 3) := by decide +kernel
theorem dL_isPane_265 : decode cL_isPane 265 = .ok (.aload_n 0, 1) := by decide +kernel
theorem dL_isPane_266 : decode cL_isPane 266 = .ok (.iload 4, 2) := by decide +kernel
theorem dL_isPane_268 : decode cL_isPane 268 = .ok (.iload 9, 2) := by decide +kernel
theorem dL_isPane_270 : decode cL_isPane 270 = .ok (.iconst 1, 1) := by decide +kernel
theorem dL_isPane_271 : decode cL_isPane 271 = .ok (.invokestatic 179, 3) := by decide +kernel
theorem dL_isPane_274 : decode cL_isPane 274 = .ok (.aload_n 2, 1) := by decide +kernel
theorem dL_isPane_275 : decode cL_isPane 275 = .ok (.iload 12, 2) := by decide +kernel
theorem dL_isPane_277 : decode cL_isPane 277 = .ok (.invokestatic 32, 3) := by decide +kernel
theorem dL_isPane_280 : decode cL_isPane 280 = .ok (.if_icmp .ne 21, 3) := by decide +kernel
theorem dL_isPane_283 : decode cL_isPane 283 = .ok (.aload_n 0, 1) := by decide +kernel
theorem dL_isPane_284 : decode cL_isPane 284 = .ok (.iload 4, 2) := by decide +kernel
theorem dL_isPane_286 : decode cL_isPane 286 = .ok (.iload 9, 2) := by decide +kernel
theorem dL_isPane_288 : decode cL_isPane 288 = .ok (.iconst 2, 1) := by decide +kernel
theorem dL_isPane_289 : decode cL_isPane 289 = .ok (.invokestatic 179, 3) := by decide +kernel
theorem dL_isPane_292 : decode cL_isPane 292 = .ok (.iload 13, 2) := by decide +kernel
theorem dL_isPane_294 : decode cL_isPane 294 = .ok (.if_icmp .ne 7, 3) := by decide +kernel
theorem dL_isPane_297 : decode cL_isPane 297 = .ok (.iconst 1, 1) := by decide +kernel
theorem dL_isPane_298 : decode cL_isPane 298 = .ok (.goto 4, 3) := by decide +kernel
theorem dL_isPane_301 : decode cL_isPane 301 = .ok (.iconst 0, 1) := by decide +kernel
theorem dL_isPane_302 : decode cL_isPane 302 = .ok (.istore 7, 2) := by decide +kernel
theorem dL_isPane_304 : decode cL_isPane 304 = .ok (.iinc 9 1, 3) := by decide +kernel
theorem dL_isPane_307 : decode cL_isPane 307 = .ok (.aload_n 2, 1) := by decide +kernel
theorem dL_isPane_308 : decode cL_isPane 308 = .ok (.iload 11, 2) := by decide +kernel
theorem dL_isPane_310 : decode cL_isPane 310 = .ok (.invokestatic 25, 3) := by decide +kernel
theorem dL_isPane_313 : decode cL_isPane 313 = .ok (.istore 11, 2) := by decide +kernel
theorem dL_isPane_315 : decode cL_isPane 315 = .ok (.goto (-119), 3) := by decide +kernel
theorem dL_isPane_318 : decode cL_isPane 318 = .ok (.iconst 0, 1) := by decide +kernel
theorem dL_isPane_319 : decode cL_isPane 319 = .ok (.istore 11, 2) := by decide +kernel
theorem dL_isPane_321 : decode cL_isPane 321 = .ok (.iload 11, 2) := by decide +kernel
theorem dL_isPane_323 : decode cL_isPane 323 = .ok (.aload_n 1, 1) := by decide +kernel
theorem dL_isPane_324 : decode cL_isPane 324 = .ok (.iconst 2, 1) := by decide +kernel
theorem dL_isPane_325 : decode cL_isPane 325 = .ok (.iaload, 1) := by decide +kernel
theorem dL_isPane_326 : decode cL_isPane 326 = .ok (.if_icmp .ge 53, 3) := by decide +kernel
theorem dL_isPane_329 : decode cL_isPane 329 = .ok (.iload 7, 2) := by decide +kernel
theorem dL_isPane_331 : decode cL_isPane 331 = .ok (.ifCond .eq 48, 3) := by decide +kernel
theorem dL_isPane_334 : decode cL_isPane 334 = .ok (.aload_n 3, 1) := by decide +kernel
theorem dL_isPane_335 : decode cL_isPane 335 = .ok (.iconst 4, 1) := by decide +kernel
theorem dL_isPane_336 : decode cL_isPane 336 = .ok (.iload 11, 2) := by decide +kernel
theorem dL_isPane_338 : decode cL_isPane 338 = .ok (.imul, 1) := by decide +kernel
theorem dL_isPane_339 : decode cL_isPane 339 = .ok (.iconst 2, 1) := by decide +kernel
theorem dL_isPane_340 : decode cL_isPane 340 = .ok (.iadd, 1) := by decide +kernel
theorem dL_isPane_341 : decode cL_isPane 341 = .ok (.iaload, 1) := by decide +kernel
theorem dL_isPane_342 : decode cL_isPane 342 = .ok (.iload 6, 2) := by decide +kernel
theorem dL_isPane_344 : decode cL_isPane 344 = .ok (.if_icmp .ne 22, 3) := by decide +kernel
theorem dL_isPane_347 : decode cL_isPane 347 = .ok (.aload_n 0, 1) := by decide +kernel
theorem dL_isPane_348 : decode cL_isPane 348 = .ok (.iload 4, 2) := by decide +kernel
theorem dL_isPane_350 : decode cL_isPane 350 = .ok (.aload_n 3, 1) := by decide +kernel
theorem dL_isPane_351 : decode cL_isPane 351 = .ok (.iconst 4, 1) := by decide +kernel
theorem dL_isPane_352 : decode cL_isPane 352 = .ok (.iload 11, 2) := by decide +kernel
theorem dL_isPane_354 : decode cL_isPane 354 = .ok (.imul, 1) := by decide +kernel
theorem dL_isPane_355 : decode cL_isPane 355 = .ok (.iconst 3, 1) := by decide +kernel
theorem dL_isPane_356 : decode cL_isPane 356 = .ok (.iadd, 1) := by decide +kernel
theorem dL_isPane_357 : decode cL_isPane 357 = .ok (.iaload, 1) := by decide +kernel
theorem dL_isPane_358 : decode cL_isPane 358 = .ok (.invokestatic 176, 3) := by decide +kernel
theorem dL_isPane_361 : decode cL_isPane 361 = .ok (.iload 11, 2) := by decide +kernel
theorem dL_isPane_363 : decode cL_isPane 363 = .ok (.if_icmp .ne 7, 3) := by decide +kernel
theorem dL_isPane_366 : decode cL_isPane 366 = .ok (.iconst 1, 1) := by decide +kernel
theorem dL_isPane_367 : decode cL_isPane 367 = .ok (.goto 4, 3) := by decide +kernel
theorem dL_isPane_370 : decode cL_isPane 370 = .ok (.iconst 0, 1) := by decide +kernel
theorem dL_isPane_371 : decode cL_isPane 371 = .ok (.istore 7, 2) := by decide +kernel
theorem dL_isPane_373 : decode cL_isPane 373 = .ok (.iinc 11 1, 3) := by decide +kernel
theorem dL_isPane_376 : decode cL_isPane 376 = .ok (.goto (-55), 3) := by decide +kernel
theorem dL_isPane_379 : decode cL_isPane 379 = .ok (.iload 7, 2) := by decide +kernel
theorem dL_isPane_381 : decode cL_isPane 381 = .ok (.ifCond .eq 128, 3) := by decide +kernel
theorem dL_isPane_384 : decode cL_isPane 384 = .ok (.aload_n 0, 1) := by decide +kernel
theorem dL_isPane_385 : decode cL_isPane 385 = .ok (.iload 4, 2) := by decide +kernel
theorem dL_isPane_387 : decode cL_isPane 387 = .ok (.bipush 7, 2) := by decide +kernel
theorem dL_isPane_389 : decode cL_isPane 389 = .ok (.invokestatic 173, 3) := by decide +kernel
theorem dL_isPane_392 : decode cL_isPane 392 = .ok (.aload_n 3, 1) := by decide +kernel
theorem dL_isPane_393 : decode cL_isPane 393 = .ok (.bipush 20, 2) := by decide +kernel
theorem dL_isPane_395 : decode cL_isPane 395 = .ok (.iload 6, 2) := by decide +kernel
theorem dL_isPane_397 : decode cL_isPane 397 = .ok (.iadd, 1) := by decide +kernel
theorem dL_isPane_398 : decode cL_isPane 398 = .ok (.iaload, 1) := by decide +kernel
theorem dL_isPane_399 : decode cL_isPane 399 = .ok (.iload 4, 2) := by decide +kernel
theorem dL_isPane_401 : decode cL_isPane 401 = .ok (.if_icmp .ne 7, 3) := by decide +kernel
theorem dL_isPane_404 : decode cL_isPane 404 = .ok (.iconst 1, 1) := by decide +kernel
theorem dL_isPane_405 : decode cL_isPane 405 = .ok (.goto 4, 3) := by decide +kernel
theorem dL_isPane_408 : decode cL_isPane 408 = .ok (.iconst 0, 1) := by decide +kernel
theorem dL_isPane_409 : decode cL_isPane 409 = .ok (.if_icmp .ne 100, 3) := by decide +kernel
theorem dL_isPane_412 : decode cL_isPane 412 = .ok (.aload_n 0, 1) := by decide +kernel
theorem dL_isPane_413 : decode cL_isPane 413 = .ok (.iload 4, 2) := by decide +kernel
theorem dL_isPane_415 : decode cL_isPane 415 = .ok (.bipush 8, 2) := by decide +kernel
theorem dL_isPane_417 : decode cL_isPane 417 = .ok (.invokestatic 173, 3) := by decide +kernel
theorem dL_isPane_420 : decode cL_isPane 420 = .ok (.aload_n 3, 1) := by decide +kernel
theorem dL_isPane_421 : decode cL_isPane 421 = .ok (.iconst 4, 1) := by decide +kernel
theorem dL_isPane_422 : decode cL_isPane 422 = .ok (.iload 4, 2) := by decide +kernel
theorem dL_isPane_424 : decode cL_isPane 424 = .ok (.imul, 1) := by decide +kernel
theorem dL_isPane_425 : decode cL_isPane 425 = .ok (.iconst 3, 1) := by decide +kernel
theorem dL_isPane_426 : decode cL_isPane 426 = .ok (.iadd, 1) := by decide +kernel
theorem dL_isPane_427 : decode cL_isPane 427 = .ok (.iaload, 1) := by decide +kernel
theorem dL_isPane_428 : decode cL_isPane 428 = .ok (.if_icmp .ne 81, 3) := by decide +kernel
theorem dL_isPane_431 : decode cL_isPane 431 = .ok (.aload_n 0, 1) := by decide +kernel
theorem dL_isPane_432 : decode cL_isPane 432 = .ok (.iload 4, 2) := by decide +kernel
theorem dL_isPane_434 : decode cL_isPane 434 = .ok (.bipush 9, 2) := by decide +kernel
theorem dL_isPane_436 : decode cL_isPane 436 = .ok (.invokestatic 173, 3) := by decide +kernel
theorem dL_isPane_439 : decode cL_isPane 439 = .ok (.aload_n 1, 1) := by decide +kernel
theorem dL_isPane_440 : decode cL_isPane 440 = .ok (.aload_n 3, 1) := by decide +kernel
theorem dL_isPane_441 : decode cL_isPane 441 = .ok (.iload 6, 2) := by decide +kernel
theorem dL_isPane_443 : decode cL_isPane 443 = .ok (.invokestatic 22, 3) := by decide +kernel
theorem dL_isPane_446 : decode cL_isPane 446 = .ok (.if_icmp .ne 63, 3) := by decide +kernel
theorem dL_isPane_449 : decode cL_isPane 449 = .ok (.aload_n 0, 1) := by decide +kernel
theorem dL_isPane_450 : decode cL_isPane 450 = .ok (.iload 4, 2) := by decide +kernel
theorem dL_isPane_452 : decode cL_isPane 452 = .ok (.bipush 10, 2) := by decide +kernel
theorem dL_isPane_454 : decode cL_isPane 454 = .ok (.invokestatic 173, 3) := by decide +kernel
theorem dL_isPane_457 : decode cL_isPane 457 = .ok (.iload 10, 2) := by decide +kernel
theorem dL_isPane_459 : decode cL_isPane 459 = .ok (.if_icmp .ne 50, 3) := by decide +kernel
theorem dL_isPane_462 : decode cL_isPane 462 = .ok (.aload_n 0, 1) := by decide +kernel
theorem dL_isPane_463 : decode cL_isPane 463 = .ok (.iload 4, 2) := by decide +kernel
theorem dL_isPane_465 : decode cL_isPane 465 = .ok (.bipush 11, 2) := by decide +kernel
theorem dL_isPane_467 : decode cL_isPane 467 = .ok (.invokestatic 173, 3) := by decide +kernel
theorem dL_isPane_470 : decode cL_isPane 470 = .ok (.iload 9, 2) := by decide +kernel
theorem dL_isPane_472 : decode cL_isPane 472 = .ok (.if_icmp .ne 37, 3) := by decide +kernel
theorem dL_isPane_475 : decode cL_isPane 475 = .ok (.aload_n 0, 1) := by decide +kernel
theorem dL_isPane_476 : decode cL_isPane 476 = .ok (.iload 4, 2) := by decide +kernel
theorem dL_isPane_478 : decode cL_isPane 478 = .ok (.iload 9, 2) := by decide +kernel
theorem dL_isPane_480 : decode cL_isPane 480 = .ok (.iconst 0, 1) := by decide +kernel
theorem dL_isPane_481 : decode cL_isPane 481 = .ok (.invokestatic 179, 3) := by decide +kernel
theorem dL_isPane_484 : decode cL_isPane 484 = .ok (.iconst (-1), 1) := by decide +kernel
theorem dL_isPane_485 : decode cL_isPane 485 = .ok (.if_icmp .ne 24, 3) := by decide +kernel
theorem dL_isPane_488 : decode cL_isPane 488 = .ok (.aload_n 0, 1) := by decide +kernel
theorem dL_isPane_489 : decode cL_isPane 489 = .ok (.iload 4, 2) := by decide +kernel
theorem dL_isPane_491 : decode cL_isPane 491 = .ok (.aload_n 1, 1) := by decide +kernel
theorem dL_isPane_492 : decode cL_isPane 492 = .ok (.aload_n 3, 1) := by decide +kernel
theorem dL_isPane_493 : decode cL_isPane 493 = .ok (.iload 6, 2) := by decide +kernel
theorem dL_isPane_495 : decode cL_isPane 495 = .ok (.invokestatic 22, 3) := by decide +kernel
theorem dL_isPane_498 : decode cL_isPane 498 = .ok (.invokestatic 176, 3) := by decide +kernel
theorem dL_isPane_501 : decode cL_isPane 501 = .ok (.iconst (-1), 1) := by decide +kernel
theorem dL_isPane_502 : decode cL_isPane 502 = .ok (.if_icmp .ne 7, 3) := by decide +kernel
theorem dL_isPane_505 : decode cL_isPane 505 = .ok (.iconst 1, 1) := by decide +kernel
theorem dL_isPane_506 : decode cL_isPane 506 = .ok (.goto 4, 3) := by decide +kernel
theorem dL_isPane_509 : decode cL_isPane 509 = .ok (.iconst 0, 1) := by decide +kernel
theorem dL_isPane_510 : decode cL_isPane 510 = .ok (.ireturn, 1) := by decide +kernel
set_option maxHeartbeats 2000000 in
theorem l_isPane (hG : GP G) (hA : hasS S o (.inr (.inr (6, ks)))) (hL : LwS S w) (hR : R32 mu) {a : Int} (ha : 0 ≤ a ∧ a < mu w 2) (hm : mu w 2 ≤ 5) (hs : 0 ≤ mu w 3 ∧ mu w 3 ≤ 16) {f1 f2 f3 : Nat} (hf : f1 ≤ 7 ∧ f2 ≤ 7 ∧ f3 ≤ 7) {pv tv : Int → Int} {sv : Int → Int → Int}
    (k1 : ∀ x : Int, 0 ≤ x → x ≤ 11 → Ct G l yX8_pane wsX8_pane f1 0 0 [.ref o, .int (I32 a), .int (I32 x)] S n mu la (Dt (some (.int (I32 (pv x)))) S n mu la))
    (k2 : ∀ x : Int, 0 ≤ x → x ≤ 100 → Ct G l yX8_tab wsX8_tab f2 0 0 [.ref o, .int (I32 a), .int (I32 x)] S n mu la (Dt (some (.int (I32 (tv x)))) S n mu la))
    (k3 : ∀ x y : Int, 0 ≤ x → x ≤ 100 → 0 ≤ y → y ≤ 7 → Ct G l yX8_split wsX8_split f3 0 0 [.ref o, .int (I32 a), .int (I32 x), .int (I32 y)] S n mu la (Dt (some (.int (I32 (sv x y)))) S n mu la))
    (h0 : pv 0 = mu (w + 2) (4 * a)) (h1 : pv 1 = mu (w + 2) (4 * a + 1)) (h2 : pv 2 = jX mu w a)
    (hc : jX mu w a = 0 → pv 3 = -1 ∧ pv 7 = -1 ∧ pv 11 = -1 ∧ tv 0 = -1 ∧ sv 0 0 = -1)
    {gr i d : Int} (egr : mu (w + 2) (4 * a + 2) = gr) (ei : jS mu w gr = i) {x : Int → Int} {N : Int → Nat} {q : Int → Int → Int} {jj : Int → Int}
    (ho : jX mu w a ≠ 0 → (0 ≤ gr ∧ gr < 5) ∧ (0 ≤ d ∧ d ≤ 100) ∧ x 0 = i ∧ ((i < 0 ∧ d = 0) ∨ (0 ≤ i ∧ UpP (mu (w + 1)) (x d) (-1))) ∧
      (∀ k : Int, 0 ≤ k → k < d → UpP (mu (w + 1)) (x k) (x (k + 1)) ∧ 0 ≤ x (k + 1) ∧ KidP (mu (w + 1)) (x (k + 1)) (N k) (q k) ∧ mu (w + 1) (3 * q k (N k)) = 4 ∧ N k ≤ 20 ∧ (0 ≤ jj k ∧ jj k < N k) ∧ q k (jj k) = x k ∧ (∀ y : Int, 0 ≤ y → y < jj k → q k y ≠ x k) ∧ sv k 0 = mu (w + 1) (3 * x (k + 1)) - 2 ∧ sv k 1 = N k ∧ sv k 2 = jj k) ∧
      (∀ k : Int, 0 ≤ k → k < mu w 2 → mu (w + 2) (4 * k + 2) = gr → (0 ≤ mu (w + 2) (4 * k + 3) ∧ mu (w + 2) (4 * k + 3) ≤ 100) ∧ tv (mu (w + 2) (4 * k + 3)) = k) ∧
      pv 7 = (if mu (w + 2) (20 + gr) = a then 1 else 0) ∧ pv 8 = mu (w + 2) (4 * a + 3) ∧ pv 9 = jT mu w gr ∧ pv 10 = (if 0 < d then mu (w + 1) (3 * i + 1) else -1) ∧ pv 11 = d ∧ sv d 0 = -1 ∧ tv (jT mu w gr) = -1) :
    Ct G l yL_isPane wsL_isPane 9 0 0 [.ref o, .ref w, .ref (w + 1), .ref (w + 2), .int (I32 a)] S n mu la (Dt (some (.int (I32 1))) S n mu la) := by
  have hg := hL.1
  have hq := hL.2.1
  have hp := hL.2.2.1
  have p0 := k1 0 (by omega) (by omega)
  have p1 := k1 1 (by omega) (by omega)
  have p2 := k1 2 (by omega) (by omega)
  rw [h0] at p0
  rw [h1] at p1
  rw [h2] at p2
  have b0 := hR (w + 2) (4 * a)
  have b1 := hR (w + 2) (4 * a + 1)
  have bx : 0 ≤ jX mu w a ∧ jX mu w a ≤ 2 := by unfold jX; (repeat' split) <;> omega
  refine Ct.ofV (cc := cL_isPane) (nL := 14) (ret := (some .boolean)) [some (.ref o), some (.ref w), some (.ref (w + 1)), some (.ref (w + 2)), some (.int (I32 a)), none, none, none, none, none, none, none, none, none] hG (by decide) rfl (Nat.le_of_ble_eq_true rfl) rfl ?_
  rintro X rfl rfl C hcl hsl E
  refine V_aload_n C dL_isPane_0 rfl ?_
  refine V_aload_n C dL_isPane_1 rfl ?_
  refine V_aload_n C dL_isPane_2 rfl ?_
  refine V_iload C dL_isPane_3 rfl ?_
  refine V_callSD (nA := 4) C dL_isPane_5 (l_state C.gp hL hR ⟨by omega, by omega⟩ hs) gL_isPane_L_state rfl (by decide +kernel) rfl (by decide) (by decide) (Nat.le_of_ble_eq_true rfl) ⟨by omega, by omega⟩ rfl ?_
  refine V_istore C dL_isPane_8 rfl (by decide) ?_
  refine V_aload_n C dL_isPane_10 rfl ?_
  refine V_iconst C dL_isPane_11 ?_
  refine V_iload C dL_isPane_12 rfl ?_
  refine V_imul C dL_isPane_14 ?_
  refine V_iconst C dL_isPane_15 ?_
  refine V_iadd C dL_isPane_16 ?_
  refine V_iald C dL_isPane_17 hp (by first | assumption | decide) (by omega) ?_
  rw [egr]
  refine V_istore C dL_isPane_18 rfl (by decide) ?_
  refine V_aload_n C dL_isPane_20 rfl ?_
  refine V_iload C dL_isPane_21 rfl ?_
  refine V_iconst C dL_isPane_23 ?_
  refine V_callSHD (nA := 3) C dL_isPane_24 (L_paneOf_k C.gp hA hf.1 p0) gL_isPane_L_paneOf rfl (by decide +kernel) rfl (by decide) (by decide) (Nat.le_of_ble_eq_true rfl) ⟨by omega, by omega⟩ rfl ?_
  refine V_aload_n C dL_isPane_27 rfl ?_
  refine V_iconst C dL_isPane_28 ?_
  refine V_iload C dL_isPane_29 rfl ?_
  refine V_imul C dL_isPane_31 ?_
  refine V_iald C dL_isPane_32 hp (by first | assumption | decide) (by omega) ?_
  refine V_icmp_ne C 70 dL_isPane_33 (by decide) (by omega) (by omega) (fun c => ?_) (fun c => ?_)
  · exact absurd rfl c
  refine V_aload_n C dL_isPane_36 rfl ?_
  refine V_iload C dL_isPane_37 rfl ?_
  refine V_iconst C dL_isPane_39 ?_
  refine V_callSHD (nA := 3) C dL_isPane_40 (L_paneOf_k C.gp hA hf.1 p1) gL_isPane_L_paneOf rfl (by decide +kernel) rfl (by decide) (by decide) (Nat.le_of_ble_eq_true rfl) ⟨by omega, by omega⟩ rfl ?_
  refine V_aload_n C dL_isPane_43 rfl ?_
  refine V_iconst C dL_isPane_44 ?_
  refine V_iload C dL_isPane_45 rfl ?_
  refine V_imul C dL_isPane_47 ?_
  refine V_iconst C dL_isPane_48 ?_
  refine V_iadd C dL_isPane_49 ?_
  refine V_iald C dL_isPane_50 hp (by first | assumption | decide) (by omega) ?_
  refine V_icmp_ne C 70 dL_isPane_51 (by decide) (by omega) (by omega) (fun c => ?_) (fun c => ?_)
  · exact absurd rfl c
  refine V_aload_n C dL_isPane_54 rfl ?_
  refine V_iload C dL_isPane_55 rfl ?_
  refine V_iconst C dL_isPane_57 ?_
  refine V_callSHD (nA := 3) C dL_isPane_58 (L_paneOf_k C.gp hA hf.1 p2) gL_isPane_L_paneOf rfl (by decide +kernel) rfl (by decide) (by decide) (Nat.le_of_ble_eq_true rfl) ⟨by omega, by omega⟩ rfl ?_
  refine V_iload C dL_isPane_61 rfl ?_
  refine V_icmp_ne C 70 dL_isPane_63 (by decide) (by omega) (by omega) (fun c => ?_) (fun c => ?_)
  · exact absurd rfl c
  refine V_iconst C dL_isPane_66 ?_
  refine V_goto C 71 dL_isPane_67 (by decide) ?_
  refine V_istore C dL_isPane_71 rfl (by decide) ?_
  refine V_iload C dL_isPane_73 rfl ?_
  refine V_if_eq C 83 dL_isPane_75 (by decide) (by omega) (fun c1 => ?_) (fun c1 => ?_)
  · obtain ⟨e3, e7, e11, et, es⟩ := hc c1
    have q3 := k1 3 (by omega) (by omega)
    have q7 := k1 7 (by omega) (by omega)
    have q11 := k1 11 (by omega) (by omega)
    have qt := k2 0 (by omega) (by omega)
    have qs := k3 0 0 (by omega) (by omega) (by omega) (by omega)
    rw [e3] at q3
    rw [e7] at q7
    rw [e11] at q11
    rw [et] at qt
    rw [es] at qs
    refine V_iload C dL_isPane_83 rfl ?_
    refine V_if_eq C 150 dL_isPane_85 (by decide) (by omega) (fun c2 => ?_) (fun c2 => ?_)
    · exact absurd c2 (by omega)
    refine V_aload_n C dL_isPane_88 rfl ?_
    refine V_iload C dL_isPane_89 rfl ?_
    refine V_iconst C dL_isPane_91 ?_
    refine V_callSHD (nA := 3) C dL_isPane_92 (L_paneOf_k C.gp hA hf.1 q3) gL_isPane_L_paneOf rfl (by decide +kernel) rfl (by decide) (by decide) (Nat.le_of_ble_eq_true rfl) ⟨by omega, by omega⟩ rfl ?_
    refine V_iconst C dL_isPane_95 ?_
    refine V_icmp_ne C 150 dL_isPane_96 (by decide) (by omega) (by omega) (fun c3 => ?_) (fun c3 => ?_)
    · exact absurd rfl c3
    refine V_aload_n C dL_isPane_99 rfl ?_
    refine V_iload C dL_isPane_100 rfl ?_
    refine V_bipush C dL_isPane_102 (by decide +kernel) ?_
    refine V_callSHD (nA := 3) C dL_isPane_104 (L_paneOf_k C.gp hA hf.1 q7) gL_isPane_L_paneOf rfl (by decide +kernel) rfl (by decide) (by decide) (Nat.le_of_ble_eq_true rfl) ⟨by omega, by omega⟩ rfl ?_
    refine V_iconst C dL_isPane_107 ?_
    refine V_icmp_ne C 150 dL_isPane_108 (by decide) (by omega) (by omega) (fun c3 => ?_) (fun c3 => ?_)
    · exact absurd rfl c3
    refine V_aload_n C dL_isPane_111 rfl ?_
    refine V_iload C dL_isPane_112 rfl ?_
    refine V_bipush C dL_isPane_114 (by decide +kernel) ?_
    refine V_callSHD (nA := 3) C dL_isPane_116 (L_paneOf_k C.gp hA hf.1 q11) gL_isPane_L_paneOf rfl (by decide +kernel) rfl (by decide) (by decide) (Nat.le_of_ble_eq_true rfl) ⟨by omega, by omega⟩ rfl ?_
    refine V_iconst C dL_isPane_119 ?_
    refine V_icmp_ne C 150 dL_isPane_120 (by decide) (by omega) (by omega) (fun c3 => ?_) (fun c3 => ?_)
    · exact absurd rfl c3
    refine V_aload_n C dL_isPane_123 rfl ?_
    refine V_iload C dL_isPane_124 rfl ?_
    refine V_iconst C dL_isPane_126 ?_
    refine V_callSHD (nA := 3) C dL_isPane_127 (L_tabOf_k C.gp hA hf.2.1 qt) gL_isPane_L_tabOf rfl (by decide +kernel) rfl (by decide) (by decide) (Nat.le_of_ble_eq_true rfl) ⟨by omega, by omega⟩ rfl ?_
    refine V_iconst C dL_isPane_130 ?_
    refine V_icmp_ne C 150 dL_isPane_131 (by decide) (by omega) (by omega) (fun c3 => ?_) (fun c3 => ?_)
    · exact absurd rfl c3
    refine V_aload_n C dL_isPane_134 rfl ?_
    refine V_iload C dL_isPane_135 rfl ?_
    refine V_iconst C dL_isPane_137 ?_
    refine V_iconst C dL_isPane_138 ?_
    refine V_callSHD (nA := 4) C dL_isPane_139 (L_splitOf_k C.gp hA hf.2.2 qs) gL_isPane_L_splitOf rfl (by decide +kernel) rfl (by decide) (by decide) (Nat.le_of_ble_eq_true rfl) ⟨by omega, by omega⟩ rfl ?_
    refine V_iconst C dL_isPane_142 ?_
    refine V_icmp_ne C 150 dL_isPane_143 (by decide) (by omega) (by omega) (fun c3 => ?_) (fun c3 => ?_)
    · exact absurd rfl c3
    refine V_iconst C dL_isPane_146 ?_
    refine V_goto C 151 dL_isPane_147 (by decide) ?_
    refine V_zreturn C E (by first | exact Or.inl rfl | exact Or.inr rfl | simp) dL_isPane_151 (by omega) (by omega) ?_
    exact Dt_rfl
  obtain ⟨hgr, hd, x0, hi, hx, ht, e7, e8, e9, e10, e11, es, et⟩ := ho c1
  have sb := jS_b (mu := mu) (w := w) (gr := gr) hs
  rw [ei] at sb
  have tb := jT_b (mu := mu) (w := w) (gr := gr) (by omega)
  have gO : Ct (xG X) (xL X) yL_signOf wsL_signOf 0 0 0 [.ref w, .ref (w + 1), .int (I32 gr)] S n mu la (Dt (some (.int (I32 i))) S n mu la) := by
    have := l_signOf (l := xL X) (n := n) (la := la) C.gp hL hR hs (gr := gr) ⟨by omega, by omega⟩
    rw [ei] at this
    exact this
  have bw := hR (w + 1) (3 * i + 1)
  have bwt : -2147483648 ≤ (if 0 < d then mu (w + 1) (3 * i + 1) else -1) ∧ (if 0 < d then mu (w + 1) (3 * i + 1) else -1) ≤ 2147483647 := by split <;> omega
  have b3 := hR (w + 2) (4 * a + 3)
  have b20 := hR (w + 2) (20 + gr)
  generalize ewt : (if 0 < d then mu (w + 1) (3 * i + 1) else -1) = wt at e10 bwt
  refine V_iload C dL_isPane_78 rfl ?_
  refine V_if_ne C 152 dL_isPane_80 (by decide) (by omega) (fun c2 => ?_) (fun c2 => ?_)
  rotate_left
  · exact absurd c2 (by omega)
  refine V_aload_n C dL_isPane_152 rfl ?_
  refine V_aload_n C dL_isPane_153 rfl ?_
  refine V_iload C dL_isPane_154 rfl ?_
  refine V_callSD (nA := 3) C dL_isPane_156 gO gL_isPane_L_signOf rfl (by decide +kernel) rfl (by decide) (by decide) (Nat.le_of_ble_eq_true rfl) ⟨by omega, by omega⟩ rfl ?_
  refine V_istore C dL_isPane_159 rfl (by decide) ?_
  refine V_iconst C dL_isPane_161 ?_
  refine V_istore C dL_isPane_162 rfl (by decide) ?_
  refine V_iload C dL_isPane_164 rfl ?_
  -- the end: the rest of the values
  have fin : ∀ r11 r12 r13 : Option Value, V X 379 [some (.ref o), some (.ref w), some (.ref (w + 1)), some (.ref (w + 2)), some (.int (I32 a)), some (.int (I32 (jX mu w a))), some (.int (I32 gr)), some (.int (I32 1)), some (.int (I32 i)), some (.int (I32 d)), some (.int (I32 wt)), r11, r12, r13] [] S n mu la 0 0 := by
    intro r11 r12 r13
    have q7 := k1 7 (by omega) (by omega)
    have q8 := k1 8 (by omega) (by omega)
    have q9 := k1 9 (by omega) (by omega)
    have q10 := k1 10 (by omega) (by omega)
    have q11 := k1 11 (by omega) (by omega)
    have qs := k3 d 0 (by omega) (by omega) (by omega) (by omega)
    have qt := k2 (jT mu w gr) (by omega) (by omega)
    rw [e7] at q7
    rw [e8] at q8
    rw [e9] at q9
    rw [e10] at q10
    rw [e11] at q11
    rw [es] at qs
    rw [et] at qt
    have mid : V X 412 [some (.ref o), some (.ref w), some (.ref (w + 1)), some (.ref (w + 2)), some (.int (I32 a)), some (.int (I32 (jX mu w a))), some (.int (I32 gr)), some (.int (I32 1)), some (.int (I32 i)), some (.int (I32 d)), some (.int (I32 wt)), r11, r12, r13] [] S n mu la 0 0 := by
      refine V_aload_n C dL_isPane_412 rfl ?_
      refine V_iload C dL_isPane_413 rfl ?_
      refine V_bipush C dL_isPane_415 (by decide +kernel) ?_
      refine V_callSHD (nA := 3) C dL_isPane_417 (L_paneOf_k C.gp hA hf.1 q8) gL_isPane_L_paneOf rfl (by decide +kernel) rfl (by decide) (by decide) (Nat.le_of_ble_eq_true rfl) ⟨by omega, by omega⟩ rfl ?_
      refine V_aload_n C dL_isPane_420 rfl ?_
      refine V_iconst C dL_isPane_421 ?_
      refine V_iload C dL_isPane_422 rfl ?_
      refine V_imul C dL_isPane_424 ?_
      refine V_iconst C dL_isPane_425 ?_
      refine V_iadd C dL_isPane_426 ?_
      refine V_iald C dL_isPane_427 hp (by first | assumption | decide) (by omega) ?_
      refine V_icmp_ne C 509 dL_isPane_428 (by decide) (by omega) (by omega) (fun c3 => ?_) (fun c3 => ?_)
      · exact absurd rfl c3
      refine V_aload_n C dL_isPane_431 rfl ?_
      refine V_iload C dL_isPane_432 rfl ?_
      refine V_bipush C dL_isPane_434 (by decide +kernel) ?_
      refine V_callSHD (nA := 3) C dL_isPane_436 (L_paneOf_k C.gp hA hf.1 q9) gL_isPane_L_paneOf rfl (by decide +kernel) rfl (by decide) (by decide) (Nat.le_of_ble_eq_true rfl) ⟨by omega, by omega⟩ rfl ?_
      refine V_aload_n C dL_isPane_439 rfl ?_
      refine V_aload_n C dL_isPane_440 rfl ?_
      refine V_iload C dL_isPane_441 rfl ?_
      refine V_callSD (nA := 3) C dL_isPane_443 (l_tabs C.gp hL hR (by omega) ⟨by omega, by omega⟩) gL_isPane_L_tabs rfl (by decide +kernel) rfl (by decide) (by decide) (Nat.le_of_ble_eq_true rfl) ⟨by omega, by omega⟩ rfl ?_
      refine V_icmp_ne C 509 dL_isPane_446 (by decide) (by omega) (by omega) (fun c3 => ?_) (fun c3 => ?_)
      · exact absurd rfl c3
      refine V_aload_n C dL_isPane_449 rfl ?_
      refine V_iload C dL_isPane_450 rfl ?_
      refine V_bipush C dL_isPane_452 (by decide +kernel) ?_
      refine V_callSHD (nA := 3) C dL_isPane_454 (L_paneOf_k C.gp hA hf.1 q10) gL_isPane_L_paneOf rfl (by decide +kernel) rfl (by decide) (by decide) (Nat.le_of_ble_eq_true rfl) ⟨by omega, by omega⟩ rfl ?_
      refine V_iload C dL_isPane_457 rfl ?_
      refine V_icmp_ne C 509 dL_isPane_459 (by decide) (by omega) (by omega) (fun c3 => ?_) (fun c3 => ?_)
      · exact absurd rfl c3
      refine V_aload_n C dL_isPane_462 rfl ?_
      refine V_iload C dL_isPane_463 rfl ?_
      refine V_bipush C dL_isPane_465 (by decide +kernel) ?_
      refine V_callSHD (nA := 3) C dL_isPane_467 (L_paneOf_k C.gp hA hf.1 q11) gL_isPane_L_paneOf rfl (by decide +kernel) rfl (by decide) (by decide) (Nat.le_of_ble_eq_true rfl) ⟨by omega, by omega⟩ rfl ?_
      refine V_iload C dL_isPane_470 rfl ?_
      refine V_icmp_ne C 509 dL_isPane_472 (by decide) (by omega) (by omega) (fun c3 => ?_) (fun c3 => ?_)
      · exact absurd rfl c3
      refine V_aload_n C dL_isPane_475 rfl ?_
      refine V_iload C dL_isPane_476 rfl ?_
      refine V_iload C dL_isPane_478 rfl ?_
      refine V_iconst C dL_isPane_480 ?_
      refine V_callSHD (nA := 4) C dL_isPane_481 (L_splitOf_k C.gp hA hf.2.2 qs) gL_isPane_L_splitOf rfl (by decide +kernel) rfl (by decide) (by decide) (Nat.le_of_ble_eq_true rfl) ⟨by omega, by omega⟩ rfl ?_
      refine V_iconst C dL_isPane_484 ?_
      refine V_icmp_ne C 509 dL_isPane_485 (by decide) (by omega) (by omega) (fun c3 => ?_) (fun c3 => ?_)
      · exact absurd rfl c3
      refine V_aload_n C dL_isPane_488 rfl ?_
      refine V_iload C dL_isPane_489 rfl ?_
      refine V_aload_n C dL_isPane_491 rfl ?_
      refine V_aload_n C dL_isPane_492 rfl ?_
      refine V_iload C dL_isPane_493 rfl ?_
      refine V_callSD (nA := 3) C dL_isPane_495 (l_tabs C.gp hL hR (by omega) ⟨by omega, by omega⟩) gL_isPane_L_tabs rfl (by decide +kernel) rfl (by decide) (by decide) (Nat.le_of_ble_eq_true rfl) ⟨by omega, by omega⟩ rfl ?_
      refine V_callSHD (nA := 3) C dL_isPane_498 (L_tabOf_k C.gp hA hf.2.1 qt) gL_isPane_L_tabOf rfl (by decide +kernel) rfl (by decide) (by decide) (Nat.le_of_ble_eq_true rfl) ⟨by omega, by omega⟩ rfl ?_
      refine V_iconst C dL_isPane_501 ?_
      refine V_icmp_ne C 509 dL_isPane_502 (by decide) (by omega) (by omega) (fun c3 => ?_) (fun c3 => ?_)
      · exact absurd rfl c3
      refine V_iconst C dL_isPane_505 ?_
      refine V_goto C 510 dL_isPane_506 (by decide) ?_
      refine V_zreturn C E (by first | exact Or.inl rfl | exact Or.inr rfl | simp) dL_isPane_510 (by omega) (by omega) ?_
      exact Dt_rfl
    refine V_iload C dL_isPane_379 rfl ?_
    refine V_if_eq C 509 dL_isPane_381 (by decide) (by omega) (fun c2 => ?_) (fun c2 => ?_)
    · exact absurd c2 (by omega)
    refine V_aload_n C dL_isPane_384 rfl ?_
    refine V_iload C dL_isPane_385 rfl ?_
    refine V_bipush C dL_isPane_387 (by decide +kernel) ?_
    refine V_callSHD (nA := 3) C dL_isPane_389 (L_paneOf_k C.gp hA hf.1 q7) gL_isPane_L_paneOf rfl (by decide +kernel) rfl (by decide) (by decide) (Nat.le_of_ble_eq_true rfl) ⟨by omega, by omega⟩ rfl ?_
    refine V_aload_n C dL_isPane_392 rfl ?_
    refine V_bipush C dL_isPane_393 (by decide +kernel) ?_
    refine V_iload C dL_isPane_395 rfl ?_
    refine V_iadd C dL_isPane_397 ?_
    refine V_iald C dL_isPane_398 hp (by first | assumption | decide) (by omega) ?_
    refine V_iload C dL_isPane_399 rfl ?_
    refine V_icmp_ne C 408 dL_isPane_401 (by decide) (by omega) (by omega) (fun c3 => ?_) (fun c3 => ?_)
    · rw [if_neg c3]
      refine V_iconst C dL_isPane_408 ?_
      refine V_icmp_ne C 509 dL_isPane_409 (by decide) (by omega) (by omega) (fun c4 => ?_) (fun c4 => ?_)
      · exact absurd rfl c4
      exact mid
    · rw [if_pos c3]
      refine V_iconst C dL_isPane_404 ?_
      refine V_goto C 409 dL_isPane_405 (by decide) ?_
      refine V_icmp_ne C 509 dL_isPane_409 (by decide) (by omega) (by omega) (fun c4 => ?_) (fun c4 => ?_)
      · exact absurd rfl c4
      exact mid
  -- the tabs
  have tabs : ∀ (m : Nat) (k : Int), 0 ≤ k → k + m = mu w 2 → ∀ r12 r13 : Option Value, V X 321 [some (.ref o), some (.ref w), some (.ref (w + 1)), some (.ref (w + 2)), some (.int (I32 a)), some (.int (I32 (jX mu w a))), some (.int (I32 gr)), some (.int (I32 1)), some (.int (I32 i)), some (.int (I32 d)), some (.int (I32 wt)), some (.int (I32 k)), r12, r13] [] S n mu la 0 0 := by
    intro m
    induction m with
    | zero =>
      intro k y1 y2 r12 r13
      refine V_iload C dL_isPane_321 rfl ?_
      refine V_aload_n C dL_isPane_323 rfl ?_
      refine V_iconst C dL_isPane_324 ?_
      refine V_iald C dL_isPane_325 hg (by first | assumption | decide) (by omega) ?_
      refine V_icmp_ge C 379 dL_isPane_326 (by decide) (by omega) (by omega) (fun c3 => ?_) (fun c3 => ?_)
      · exact fin _ _ _
      · exact absurd c3 (by omega)
    | succ m ih =>
      intro k y1 y2 r12 r13
      have ih := ih (k + 1) (by omega) (by omega) r12 r13
      have bb := hR (w + 2) (4 * k + 2)
      refine V_iload C dL_isPane_321 rfl ?_
      refine V_aload_n C dL_isPane_323 rfl ?_
      refine V_iconst C dL_isPane_324 ?_
      refine V_iald C dL_isPane_325 hg (by first | assumption | decide) (by omega) ?_
      refine V_icmp_ge C 379 dL_isPane_326 (by decide) (by omega) (by omega) (fun c3 => ?_) (fun c3 => ?_)
      · exact absurd c3 (by omega)
      refine V_iload C dL_isPane_329 rfl ?_
      refine V_if_eq C 379 dL_isPane_331 (by decide) (by omega) (fun c4 => ?_) (fun c4 => ?_)
      · exact absurd c4 (by omega)
      refine V_aload_n C dL_isPane_334 rfl ?_
      refine V_iconst C dL_isPane_335 ?_
      refine V_iload C dL_isPane_336 rfl ?_
      refine V_imul C dL_isPane_338 ?_
      refine V_iconst C dL_isPane_339 ?_
      refine V_iadd C dL_isPane_340 ?_
      refine V_iald C dL_isPane_341 hp (by first | assumption | decide) (by omega) ?_
      refine V_iload C dL_isPane_342 rfl ?_
      refine V_icmp_ne C 366 dL_isPane_344 (by decide) (by omega) (by omega) (fun c5 => ?_) (fun c5 => ?_)
      · refine V_iconst C dL_isPane_366 ?_
        refine V_goto C 371 dL_isPane_367 (by decide) ?_
        refine V_istore C dL_isPane_371 rfl (by decide) ?_
        refine V_iinc C dL_isPane_373 rfl rfl (by decide) ?_
        refine V_goto C 321 dL_isPane_376 (by decide) ?_
        exact ih
      · obtain ⟨t1, t2⟩ := ht k y1 (by omega) c5
        have qt := k2 _ t1.1 t1.2
        rw [t2] at qt
        refine V_aload_n C dL_isPane_347 rfl ?_
        refine V_iload C dL_isPane_348 rfl ?_
        refine V_aload_n C dL_isPane_350 rfl ?_
        refine V_iconst C dL_isPane_351 ?_
        refine V_iload C dL_isPane_352 rfl ?_
        refine V_imul C dL_isPane_354 ?_
        refine V_iconst C dL_isPane_355 ?_
        refine V_iadd C dL_isPane_356 ?_
        refine V_iald C dL_isPane_357 hp (by first | assumption | decide) (by omega) ?_
        refine V_callSHD (nA := 3) C dL_isPane_358 (L_tabOf_k C.gp hA hf.2.1 qt) gL_isPane_L_tabOf rfl (by decide +kernel) rfl (by decide) (by decide) (Nat.le_of_ble_eq_true rfl) ⟨by omega, by omega⟩ rfl ?_
        refine V_iload C dL_isPane_361 rfl ?_
        refine V_icmp_ne C 370 dL_isPane_363 (by decide) (by omega) (by omega) (fun c6 => ?_) (fun c6 => ?_)
        · exact absurd rfl c6
        refine V_iconst C dL_isPane_366 ?_
        refine V_goto C 371 dL_isPane_367 (by decide) ?_
        refine V_istore C dL_isPane_371 rfl (by decide) ?_
        refine V_iinc C dL_isPane_373 rfl rfl (by decide) ?_
        refine V_goto C 321 dL_isPane_376 (by decide) ?_
        exact ih
  -- the splits above
  have ups : ∀ (m : Nat) (k : Int), 0 ≤ k → k + m = d → ∀ r12 r13 : Option Value, V X 196 [some (.ref o), some (.ref w), some (.ref (w + 1)), some (.ref (w + 2)), some (.int (I32 a)), some (.int (I32 (jX mu w a))), some (.int (I32 gr)), some (.int (I32 1)), some (.int (I32 i)), some (.int (I32 k)), some (.int (I32 wt)), some (.int (I32 (x k))), r12, r13] [] S n mu la 0 0 := by
    intro m
    induction m with
    | zero =>
      intro k y1 y2 r12 r13
      have ek : k = d := by omega
      subst ek
      have go := tabs (mu w 2).toNat 0 (by omega) (by omega) r12 r13
      refine V_iload C dL_isPane_196 rfl ?_
      refine V_if_lt C 318 dL_isPane_198 (by decide) (by omega) (fun c3 => ?_) (fun c3 => ?_)
      · refine V_iconst C dL_isPane_318 ?_
        refine V_istore C dL_isPane_319 rfl (by decide) ?_
        exact go
      · rcases hi with ⟨hi, -⟩ | ⟨-, hi⟩
        · exact absurd hi (by omega)
        refine V_aload_n C dL_isPane_201 rfl ?_
        refine V_iload C dL_isPane_202 rfl ?_
        refine V_callSD (nA := 2) C dL_isPane_204 (l_up C.gp hq hR hi) gL_isPane_L_up rfl (by decide +kernel) rfl (by decide) (by decide) (Nat.le_of_ble_eq_true rfl) ⟨by omega, by omega⟩ rfl ?_
        refine V_if_lt C 318 dL_isPane_207 (by decide) (by omega) (fun c4 => ?_) (fun c4 => ?_)
        · refine V_iconst C dL_isPane_318 ?_
          refine V_istore C dL_isPane_319 rfl (by decide) ?_
          exact go
        · exact absurd c4 (by omega)
    | succ m ih =>
      intro k y1 y2 r12 r13
      obtain ⟨hu, hx1, hk, h4, hN, hj, hjx, hjn, s0, s1, s2⟩ := hx k y1 (by omega)
      have ub := hu.1
      have kb := hk.2.1
      have ih := ih (k + 1) (by omega) (by omega)
      have q0 := k3 k 0 (by omega) (by omega) (by omega) (by omega)
      have q1 := k3 k 1 (by omega) (by omega) (by omega) (by omega)
      have q2 := k3 k 2 (by omega) (by omega) (by omega) (by omega)
      rw [s0] at q0
      rw [s1] at q1
      rw [s2] at q2
      have bo := hR (w + 1) (3 * x (k + 1))
      have big : -2147483648 ≤ mu (w + 1) (3 * x (k + 1)) - 2 ∧ mu (w + 1) (3 * x (k + 1)) - 2 ≤ 2147483647 ∨ mu (w + 1) (3 * x (k + 1)) < -2147483646 := by omega
      rcases hi with ⟨hi, hd0⟩ | ⟨hi, hi2⟩
      · exact absurd hd0 (by omega)
      refine V_iload C dL_isPane_196 rfl ?_
      refine V_if_lt C 318 dL_isPane_198 (by decide) (by omega) (fun c3 => ?_) (fun c3 => ?_)
      · exact absurd c3 (by omega)
      refine V_aload_n C dL_isPane_201 rfl ?_
      refine V_iload C dL_isPane_202 rfl ?_
      refine V_callSD (nA := 2) C dL_isPane_204 (l_up C.gp hq hR hu) gL_isPane_L_up rfl (by decide +kernel) rfl (by decide) (by decide) (Nat.le_of_ble_eq_true rfl) ⟨by omega, by omega⟩ rfl ?_
      refine V_if_lt C 318 dL_isPane_207 (by decide) (by omega) (fun c4 => ?_) (fun c4 => ?_)
      · exact absurd c4 (by omega)
      refine V_iload C dL_isPane_210 rfl ?_
      refine V_if_eq C 318 dL_isPane_212 (by decide) (by omega) (fun c5 => ?_) (fun c5 => ?_)
      · exact absurd c5 (by omega)
      refine V_aload_n C dL_isPane_215 rfl ?_
      refine V_iload C dL_isPane_216 rfl ?_
      refine V_callSD (nA := 2) C dL_isPane_218 (l_up C.gp hq hR hu) gL_isPane_L_up rfl (by decide +kernel) rfl (by decide) (by decide) (Nat.le_of_ble_eq_true rfl) ⟨by omega, by omega⟩ rfl ?_
      refine V_istore C dL_isPane_221 rfl (by decide) ?_
      refine V_iconst C dL_isPane_223 ?_
      refine V_istore C dL_isPane_224 rfl (by decide) ?_
      have find : ∀ (m2 : Nat) (y : Int), 0 ≤ y → y + m2 = jj k → V X 226 [some (.ref o), some (.ref w), some (.ref (w + 1)), some (.ref (w + 2)), some (.int (I32 a)), some (.int (I32 (jX mu w a))), some (.int (I32 gr)), some (.int (I32 1)), some (.int (I32 i)), some (.int (I32 k)), some (.int (I32 wt)), some (.int (I32 (x k))), some (.int (I32 (x (k + 1)))), some (.int (I32 y))] [] S n mu la 0 0 := by
        intro m2
        induction m2 with
        | zero =>
          intro y z1 z2
          have ey : y = jj k := by omega
          subst ey
          have kb1 := kb (jj k) (by omega) (by omega)
          refine V_aload_n C dL_isPane_226 rfl ?_
          refine V_iload C dL_isPane_227 rfl ?_
          refine V_iload C dL_isPane_229 rfl ?_
          refine V_callSD (nA := 3) C dL_isPane_231 (l_kid C.gp hq hR ⟨by omega, by omega⟩ hk ⟨by omega, by omega⟩ (by omega)) gL_isPane_L_kid rfl (by decide +kernel) rfl (by decide) (by decide) (Nat.le_of_ble_eq_true rfl) ⟨by omega, by omega⟩ rfl ?_
          refine V_iload C dL_isPane_234 rfl ?_
          refine V_icmp_eq C 245 dL_isPane_236 (by decide) (by omega) (by omega) (fun c6 => ?_) (fun c6 => ?_)
          · refine V_aload_n C dL_isPane_245 rfl ?_
            refine V_iload C dL_isPane_246 rfl ?_
            refine V_iload C dL_isPane_248 rfl ?_
            refine V_iconst C dL_isPane_250 ?_
            refine V_callSHD (nA := 4) C dL_isPane_251 (L_splitOf_k C.gp hA hf.2.2 q0) gL_isPane_L_splitOf rfl (by decide +kernel) rfl (by decide) (by decide) (Nat.le_of_ble_eq_true rfl) ⟨by omega, by omega⟩ rfl ?_
            refine V_aload_n C dL_isPane_254 rfl ?_
            refine V_iconst C dL_isPane_255 ?_
            refine V_iload C dL_isPane_256 rfl ?_
            refine V_imul C dL_isPane_258 ?_
            refine V_iald C dL_isPane_259 hq (by first | assumption | decide) (by omega) ?_
            refine V_iconst C dL_isPane_260 ?_
            refine V_isub C dL_isPane_261 ?_
            refine V_icmp_neS C (tgt := 301) (by decide) dL_isPane_262 ?_
            refine V_aload_n C dL_isPane_265 rfl ?_
            refine V_iload C dL_isPane_266 rfl ?_
            refine V_iload C dL_isPane_268 rfl ?_
            refine V_iconst C dL_isPane_270 ?_
            refine V_callSHD (nA := 4) C dL_isPane_271 (L_splitOf_k C.gp hA hf.2.2 q1) gL_isPane_L_splitOf rfl (by decide +kernel) rfl (by decide) (by decide) (Nat.le_of_ble_eq_true rfl) ⟨by omega, by omega⟩ rfl ?_
            refine V_aload_n C dL_isPane_274 rfl ?_
            refine V_iload C dL_isPane_275 rfl ?_
            refine V_callSD (nA := 2) C dL_isPane_277 (l_kids C.gp hq hR ⟨by omega, by omega⟩ hk h4) gL_isPane_L_kids rfl (by decide +kernel) rfl (by decide) (by decide) (Nat.le_of_ble_eq_true rfl) ⟨by omega, by omega⟩ rfl ?_
            refine V_icmp_ne C 301 dL_isPane_280 (by decide) (by omega) (by omega) (fun c7 => ?_) (fun c7 => ?_)
            · exact absurd rfl c7
            refine V_aload_n C dL_isPane_283 rfl ?_
            refine V_iload C dL_isPane_284 rfl ?_
            refine V_iload C dL_isPane_286 rfl ?_
            refine V_iconst C dL_isPane_288 ?_
            refine V_callSHD (nA := 4) C dL_isPane_289 (L_splitOf_k C.gp hA hf.2.2 q2) gL_isPane_L_splitOf rfl (by decide +kernel) rfl (by decide) (by decide) (Nat.le_of_ble_eq_true rfl) ⟨by omega, by omega⟩ rfl ?_
            refine V_iload C dL_isPane_292 rfl ?_
            refine V_icmp_ne C 301 dL_isPane_294 (by decide) (by omega) (by omega) (fun c7 => ?_) (fun c7 => ?_)
            · exact absurd rfl c7
            refine V_iconst C dL_isPane_297 ?_
            refine V_goto C 302 dL_isPane_298 (by decide) ?_
            refine V_istore C dL_isPane_302 rfl (by decide) ?_
            refine V_iinc C dL_isPane_304 rfl rfl (by decide) ?_
            refine V_aload_n C dL_isPane_307 rfl ?_
            refine V_iload C dL_isPane_308 rfl ?_
            refine V_callSD (nA := 2) C dL_isPane_310 (l_up C.gp hq hR hu) gL_isPane_L_up rfl (by decide +kernel) rfl (by decide) (by decide) (Nat.le_of_ble_eq_true rfl) ⟨by omega, by omega⟩ rfl ?_
            refine V_istore C dL_isPane_313 rfl (by decide) ?_
            refine V_goto C 196 dL_isPane_315 (by decide) ?_
            exact ih _ _
          · exact absurd hjx c6
        | succ m2 ih2 =>
          intro y z1 z2
          have ih2 := ih2 (y + 1) (by omega) (by omega)
          have kb1 := kb y (by omega) (by omega)
          have hy := hjn y z1 (by omega)
          refine V_aload_n C dL_isPane_226 rfl ?_
          refine V_iload C dL_isPane_227 rfl ?_
          refine V_iload C dL_isPane_229 rfl ?_
          refine V_callSD (nA := 3) C dL_isPane_231 (l_kid C.gp hq hR ⟨by omega, by omega⟩ hk ⟨by omega, by omega⟩ (by omega)) gL_isPane_L_kid rfl (by decide +kernel) rfl (by decide) (by decide) (Nat.le_of_ble_eq_true rfl) ⟨by omega, by omega⟩ rfl ?_
          refine V_iload C dL_isPane_234 rfl ?_
          refine V_icmp_eq C 245 dL_isPane_236 (by decide) (by omega) (by omega) (fun c6 => ?_) (fun c6 => ?_)
          · exact absurd c6 hy
          refine V_iinc C dL_isPane_239 rfl rfl (by decide) ?_
          refine V_goto C 226 dL_isPane_242 (by decide) ?_
          exact ih2
      exact find (jj k).toNat 0 (by omega) (by omega)
  have go := ups d.toNat 0 (by omega) (by omega)
  rw [x0] at go
  have wtail : V X 190 [some (.ref o), some (.ref w), some (.ref (w + 1)), some (.ref (w + 2)), some (.int (I32 a)), some (.int (I32 (jX mu w a))), some (.int (I32 gr)), some (.int (I32 1)), some (.int (I32 i)), some (.int (I32 0)), none, none, none, none] [.int (I32 wt)] S n mu la 0 0 := by
    refine V_istore C dL_isPane_190 rfl (by decide) ?_
    refine V_iload C dL_isPane_192 rfl ?_
    refine V_istore C dL_isPane_194 rfl (by decide) ?_
    exact go _ _
  refine V_if_lt C 178 dL_isPane_166 (by decide) (by omega) (fun c3 => ?_) (fun c3 => ?_)
  · rw [← ewt, if_neg (by omega)] at wtail
    refine V_iconst C dL_isPane_178 ?_
    refine V_goto C 190 dL_isPane_179 (by decide) ?_
    exact wtail
  · by_cases d0 : 0 < d
    · obtain ⟨hu, hx1, -⟩ := hx 0 (by omega) d0
      rw [x0] at hu
      have ub := hu.1
      rw [← ewt, if_pos d0] at wtail
      refine V_aload_n C dL_isPane_169 rfl ?_
      refine V_iload C dL_isPane_170 rfl ?_
      refine V_callSD (nA := 2) C dL_isPane_172 (l_up C.gp hq hR hu) gL_isPane_L_up rfl (by decide +kernel) rfl (by decide) (by decide) (Nat.le_of_ble_eq_true rfl) ⟨by omega, by omega⟩ rfl ?_
      refine V_if_ge C 182 dL_isPane_175 (by decide) (by omega) (fun c4 => ?_) (fun c4 => ?_)
      · refine V_aload_n C dL_isPane_182 rfl ?_
        refine V_iconst C dL_isPane_183 ?_
        refine V_iload C dL_isPane_184 rfl ?_
        refine V_imul C dL_isPane_186 ?_
        refine V_iconst C dL_isPane_187 ?_
        refine V_iadd C dL_isPane_188 ?_
        refine V_iald C dL_isPane_189 hq (by first | assumption | decide) (by omega) ?_
        exact wtail
      · exact absurd c4 (by omega)
    · rcases hi with ⟨hi, -⟩ | ⟨-, hi⟩
      · exact absurd hi (by omega)
      rw [show d = 0 by omega, x0] at hi
      rw [← ewt, if_neg d0] at wtail
      refine V_aload_n C dL_isPane_169 rfl ?_
      refine V_iload C dL_isPane_170 rfl ?_
      refine V_callSD (nA := 2) C dL_isPane_172 (l_up C.gp hq hR hi) gL_isPane_L_up rfl (by decide +kernel) rfl (by decide) (by decide) (Nat.le_of_ble_eq_true rfl) ⟨by omega, by omega⟩ rfl ?_
      refine V_if_ge C 182 dL_isPane_175 (by decide) (by omega) (fun c4 => ?_) (fun c4 => ?_)
      · exact absurd c4 (by omega)
      refine V_iconst C dL_isPane_178 ?_
      refine V_goto C 190 dL_isPane_179 (by decide) ?_
      exact wtail
end LP
