/-! THE LAW OF p32: all is as the rows tell -/
def jNG2 (mu : Mem) (w : Nat) (s : Int) : Nat → Int
  | 0 => 0
  | n + 1 => jNG2 mu w s n + (if jX mu w n = s then 1 else 0)
def jZG (Q : Int → Int) : Nat → Int
  | 0 => 0
  | n + 1 => jZG Q n + (if Q (3 * n) = 2 ∨ Q (3 * n) = 3 then 1 else 0)
theorem jNG2_s {mu : Mem} {w : Nat} {s i : Int} (h : 0 ≤ i) : jNG2 mu w s (i + 1).toNat = jNG2 mu w s i.toNat + (if jX mu w i = s then 1 else 0) := by
  obtain ⟨n, rfl⟩ := nat_of h
  rw [show ((n : Int) + 1).toNat = n + 1 by omega, show (n : Int).toNat = n by omega]
  rfl
theorem jZG_s {Q : Int → Int} {i : Int} (h : 0 ≤ i) : jZG Q (i + 1).toNat = jZG Q i.toNat + (if Q (3 * i) = 2 ∨ Q (3 * i) = 3 then 1 else 0) := by
  obtain ⟨n, rfl⟩ := nat_of h
  rw [show ((n : Int) + 1).toNat = n + 1 by omega, show (n : Int).toNat = n by omega]
  rfl
theorem jNG2_b (mu : Mem) (w : Nat) (s : Int) : ∀ n : Nat, 0 ≤ jNG2 mu w s n ∧ jNG2 mu w s n ≤ n
  | 0 => by simp [jNG2]
  | n + 1 => by
    have := jNG2_b mu w s n
    unfold jNG2
    split <;> omega
theorem jZG_b (Q : Int → Int) : ∀ n : Nat, 0 ≤ jZG Q n ∧ jZG Q n ≤ n
  | 0 => by simp [jZG]
  | n + 1 => by
    have := jZG_b Q n
    unfold jZG
    split <;> omega
section LQ
variable {G : Gx} {l : Launch} {S : Sh} {n : Nat} {mu : Mem} {la : Lam} {w o : Nat} {ks : List Sk}
set_option maxRecDepth 20000 in
theorem ggL_isSo_L_state : GoodIn wsL_isSo wsL_state := goodIn_r _ [4, 5, 6, 3, 7] (by decide +kernel) (by decide +kernel)
set_option maxRecDepth 20000 in
theorem gL_isSo_L_state : GoodIn wsL_isSo (va_wsS RL 63 yL_state wsL_state) := goodIn_app (goodIn_of _ (by decide +kernel)) ggL_isSo_L_state
set_option maxRecDepth 20000 in
theorem ggL_isSo_L_isPane : GoodIn wsL_isSo wsL_isPane := goodIn_ca (goodIn_ca (goodIn_ca (goodIn_r _ [10, 1, 2, 3, 4, 5, 6, 7, 11, 12, 13, 14, 15, 16, 17, 18, 19, 20, 21, 22, 23, 24, 25, 26, 27, 28, 29, 30, 31, 32, 33, 34, 35, 36, 37, 38, 39, 40, 41, 42, 43, 44, 45, 46, 47, 48, 49, 50, 51, 52, 53, 54, 55, 56, 57, 58, 59, 60, 61, 62, 63, 64, 65, 66, 67, 68, 69, 70, 71, 72, 73, 74, 75, 76, 77, 78, 79, 80, 81, 82, 83, 84, 85, 86, 87, 88, 89, 90, 91, 92, 93, 94, 95, 96, 97, 98, 99, 100, 101, 102, 103, 104, 105, 106, 107, 108, 109, 110, 111, 112, 113, 114, 115, 116, 117, 118, 119, 120, 121, 122, 123, 124, 125, 126, 127, 128, 129, 130, 131, 132, 133, 134, 135, 136, 137, 138, 139, 140, 141, 142, 143, 144, 145, 146, 147, 148, 149, 150, 151, 152, 153, 154, 155, 156, 157, 158, 159, 160, 161, 162, 163, 164, 165, 166, 167, 168, 169, 170, 171, 227, 228, 229, 230, 231, 232, 233, 234, 235, 236, 237, 238, 239, 240, 241, 242, 243, 244, 245, 246, 247, 248, 249, 250, 251, 252, 253, 254, 255, 256, 257, 258, 259, 260] (by decide +kernel) (by decide +kernel)) (goodIn_sub (fun _ h => List.mem_cons_of_mem _ (List.mem_append_left _ (List.mem_append_left _ (List.mem_append_right _ h)))) (by decide +kernel))) (goodIn_sub (fun _ h => List.mem_cons_of_mem _ (List.mem_append_left _ (List.mem_append_right _ h))) (by decide +kernel))) (goodIn_sub (fun _ h => List.mem_cons_of_mem _ (List.mem_append_right _ h)) (by decide +kernel))
set_option maxRecDepth 20000 in
theorem gL_isSo_L_isPane : GoodIn wsL_isSo (va_wsS RL 182 yL_isPane wsL_isPane) := goodIn_app (goodIn_of _ (by decide +kernel)) ggL_isSo_L_isPane
set_option maxRecDepth 20000 in
theorem ggL_isSo_L_groupOf : GoodIn wsL_isSo wsL_groupOf := goodIn_ca (goodIn_ca (goodIn_ca (goodIn_r _ [174, 15, 17, 175, 176, 177, 21, 178, 23, 62, 118, 119, 120, 31, 32, 33, 34, 35, 36, 37, 38, 39, 179, 180, 181, 66, 182, 183, 184, 46, 47, 99, 100, 83, 84, 85, 51, 86, 87, 227, 228, 229, 230, 231, 232, 233, 234, 235, 236, 237, 238, 239, 248, 249, 250, 251, 252, 253, 254, 255, 256, 257, 258, 259, 260, 240, 241, 242, 243, 244, 245, 246, 247] (by decide +kernel) (by decide +kernel)) (goodIn_sub (fun _ h => List.mem_cons_of_mem _ (List.mem_append_left _ (List.mem_append_left _ (List.mem_append_right _ h)))) (by decide +kernel))) (goodIn_sub (fun _ h => List.mem_cons_of_mem _ (List.mem_append_left _ (List.mem_append_right _ h))) (by decide +kernel))) (goodIn_sub (fun _ h => List.mem_cons_of_mem _ (List.mem_append_right _ h)) (by decide +kernel))
set_option maxRecDepth 20000 in
theorem gL_isSo_L_groupOf : GoodIn wsL_isSo (va_wsS RL 186 yL_groupOf wsL_groupOf) := goodIn_app (goodIn_of _ (by decide +kernel)) ggL_isSo_L_groupOf
set_option maxRecDepth 20000 in
theorem ggL_isSo_L_floatOf : GoodIn wsL_isSo wsL_floatOf := goodIn_ca (goodIn_ca (goodIn_ca (goodIn_r _ [187, 15, 17, 188, 189, 190, 21, 191, 23, 118, 119, 120, 31, 32, 33, 34, 35, 36, 37, 38, 39, 121, 122, 123, 51, 124, 53, 92, 46, 47, 83, 84, 85, 86, 87, 227, 228, 229, 230, 231, 232, 233, 234, 235, 236, 237, 238, 239, 240, 241, 242, 243, 244, 245, 246, 247] (by decide +kernel) (by decide +kernel)) (goodIn_sub (fun _ h => List.mem_cons_of_mem _ (List.mem_append_left _ (List.mem_append_left _ (List.mem_append_right _ h)))) (by decide +kernel))) (goodIn_sub (fun _ h => List.mem_cons_of_mem _ (List.mem_append_left _ (List.mem_append_right _ h))) (by decide +kernel))) (goodIn_sub (fun _ h => List.mem_cons_of_mem _ (List.mem_append_right _ h)) (by decide +kernel))
set_option maxRecDepth 20000 in
theorem gL_isSo_L_floatOf : GoodIn wsL_isSo (va_wsS RL 189 yL_floatOf wsL_floatOf) := goodIn_app (goodIn_of _ (by decide +kernel)) ggL_isSo_L_floatOf
set_option maxRecDepth 20000 in
theorem ggL_isSo_L_wholeOf : GoodIn wsL_isSo wsL_wholeOf := goodIn_ca (goodIn_ca (goodIn_ca (goodIn_r _ [194, 15, 17, 195, 196, 197, 21, 198, 23, 62, 28, 29, 30, 31, 32, 33, 34, 35, 36, 37, 38, 39, 199, 200, 201, 202, 48, 49, 50, 51, 52, 53, 46, 47, 203, 204, 205, 66, 206, 183, 207, 208, 209, 210, 211, 93, 94, 95, 96, 97, 212, 213, 214, 215, 184, 216, 145, 146, 147, 148, 217, 218, 219, 220, 221, 222, 223, 224, 225, 226, 227, 228, 229, 230, 231, 232, 233, 234, 235, 236, 237, 238, 239, 240, 241, 242, 243, 244, 245, 246, 247, 248, 249, 250, 251, 252, 253, 254, 255, 256, 257, 258, 259, 260] (by decide +kernel) (by decide +kernel)) (goodIn_sub (fun _ h => List.mem_cons_of_mem _ (List.mem_append_left _ (List.mem_append_left _ (List.mem_append_right _ h)))) (by decide +kernel))) (goodIn_sub (fun _ h => List.mem_cons_of_mem _ (List.mem_append_left _ (List.mem_append_right _ h))) (by decide +kernel))) (goodIn_sub (fun _ h => List.mem_cons_of_mem _ (List.mem_append_right _ h)) (by decide +kernel))
set_option maxRecDepth 20000 in
theorem gL_isSo_L_wholeOf : GoodIn wsL_isSo (va_wsS RL 192 yL_wholeOf wsL_wholeOf) := goodIn_app (goodIn_of _ (by decide +kernel)) ggL_isSo_L_wholeOf
theorem dL_isSo_0 : decode cL_isSo 0 = .ok (.iconst 1, 1) := by decide +kernel
theorem dL_isSo_1 : decode cL_isSo 1 = .ok (.istore 5, 2) := by decide +kernel
theorem dL_isSo_3 : decode cL_isSo 3 = .ok (.iconst 0, 1) := by decide +kernel
theorem dL_isSo_4 : decode cL_isSo 4 = .ok (.istore 6, 2) := by decide +kernel
theorem dL_isSo_6 : decode cL_isSo 6 = .ok (.iconst 0, 1) := by decide +kernel
theorem dL_isSo_7 : decode cL_isSo 7 = .ok (.istore 7, 2) := by decide +kernel
theorem dL_isSo_9 : decode cL_isSo 9 = .ok (.iconst 0, 1) := by decide +kernel
theorem dL_isSo_10 : decode cL_isSo 10 = .ok (.istore 8, 2) := by decide +kernel
theorem dL_isSo_12 : decode cL_isSo 12 = .ok (.iconst 0, 1) := by decide +kernel
theorem dL_isSo_13 : decode cL_isSo 13 = .ok (.istore 9, 2) := by decide +kernel
theorem dL_isSo_15 : decode cL_isSo 15 = .ok (.iconst 0, 1) := by decide +kernel
theorem dL_isSo_16 : decode cL_isSo 16 = .ok (.istore 10, 2) := by decide +kernel
theorem dL_isSo_18 : decode cL_isSo 18 = .ok (.iload 10, 2) := by decide +kernel
theorem dL_isSo_20 : decode cL_isSo 20 = .ok (.aload_n 1, 1) := by decide +kernel
theorem dL_isSo_21 : decode cL_isSo 21 = .ok (.iconst 2, 1) := by decide +kernel
theorem dL_isSo_22 : decode cL_isSo 22 = .ok (.iaload, 1) := by decide +kernel
theorem dL_isSo_23 : decode cL_isSo 23 = .ok (.if_icmp .ge 69, 3) := by decide +kernel
theorem dL_isSo_26 : decode cL_isSo 26 = .ok (.iload 5, 2) := by decide +kernel
theorem dL_isSo_28 : decode cL_isSo 28 = .ok (.ifCond .eq 64, 3) := by decide +kernel
theorem dL_isSo_31 : decode cL_isSo 31 = .ok (.iload 6, 2) := by decide +kernel
theorem dL_isSo_33 : decode cL_isSo 33 = .ok (.aload_n 1, 1) := by decide +kernel
theorem dL_isSo_34 : decode cL_isSo 34 = .ok (.aload_n 2, 1) := by decide +kernel
theorem dL_isSo_35 : decode cL_isSo 35 = .ok (.aload_n 3, 1) := by decide +kernel
theorem dL_isSo_36 : decode cL_isSo 36 = .ok (.iload 10, 2) := by decide +kernel
theorem dL_isSo_38 : decode cL_isSo 38 = .ok (.invokestatic 63, 3) := by decide +kernel
theorem dL_isSo_41 : decode cL_isSo 41 = .ok (.iconst 1, 1) := by decide +kernel
theorem dL_isSo_42 : decode cL_isSo 42 = .ok (.if_icmp .ne 7, 3) := by decide +kernel
theorem dL_isSo_45 : decode cL_isSo 45 = .ok (.iconst 1, 1) := by decide +kernel
theorem dL_isSo_46 : decode cL_isSo 46 = .ok (.goto 4, 3) := by decide +kernel
theorem dL_isSo_49 : decode cL_isSo 49 = .ok (.iconst 0, 1) := by decide +kernel
theorem dL_isSo_50 : decode cL_isSo 50 = .ok (.iadd, 1) := by decide +kernel
theorem dL_isSo_51 : decode cL_isSo 51 = .ok (.istore 6, 2) := by decide +kernel
theorem dL_isSo_53 : decode cL_isSo 53 = .ok (.iload 7, 2) := by decide +kernel
theorem dL_isSo_55 : decode cL_isSo 55 = .ok (.aload_n 1, 1) := by decide +kernel
theorem dL_isSo_56 : decode cL_isSo 56 = .ok (.aload_n 2, 1) := by decide +kernel
theorem dL_isSo_57 : decode cL_isSo 57 = .ok (.aload_n 3, 1) := by decide +kernel
theorem dL_isSo_58 : decode cL_isSo 58 = .ok (.iload 10, 2) := by decide +kernel
theorem dL_isSo_60 : decode cL_isSo 60 = .ok (.invokestatic 63, 3) := by decide +kernel
theorem dL_isSo_63 : decode cL_isSo 63 = .ok (.iconst 2, 1) := by decide +kernel
theorem dL_isSo_64 : decode cL_isSo 64 = .ok (.if_icmp .ne 7, 3) := by decide +kernel
theorem dL_isSo_67 : decode cL_isSo 67 = .ok (.iconst 1, 1) := by decide +kernel
theorem dL_isSo_68 : decode cL_isSo 68 = .ok (.goto 4, 3) := by decide +kernel
theorem dL_isSo_71 : decode cL_isSo 71 = .ok (.iconst 0, 1) := by decide +kernel
theorem dL_isSo_72 : decode cL_isSo 72 = .ok (.iadd, 1) := by decide +kernel
theorem dL_isSo_73 : decode cL_isSo 73 = .ok (.istore 7, 2) := by decide +kernel
theorem dL_isSo_75 : decode cL_isSo 75 = .ok (.aload_n 0, 1) := by decide +kernel
theorem dL_isSo_76 : decode cL_isSo 76 = .ok (.aload_n 1, 1) := by decide +kernel
theorem dL_isSo_77 : decode cL_isSo 77 = .ok (.aload_n 2, 1) := by decide +kernel
theorem dL_isSo_78 : decode cL_isSo 78 = .ok (.aload_n 3, 1) := by decide +kernel
theorem dL_isSo_79 : decode cL_isSo 79 = .ok (.iload 10, 2) := by decide +kernel
theorem dL_isSo_81 : decode cL_isSo 81 = .ok (.invokestatic 182, 3) := by decide +kernel
theorem dL_isSo_84 : decode cL_isSo 84 = .ok (.istore 5, 2) := by decide +kernel
theorem dL_isSo_86 : decode cL_isSo 86 = .ok (.iinc 10 1, 3) := by decide +kernel
theorem dL_isSo_89 : decode cL_isSo 89 = .ok (.goto (-71), 3) := by decide +kernel
theorem dL_isSo_92 : decode cL_isSo 92 = .ok (.iconst 0, 1) := by decide +kernel
theorem dL_isSo_93 : decode cL_isSo 93 = .ok (.istore 10, 2) := by decide +kernel
theorem dL_isSo_95 : decode cL_isSo 95 = .ok (.iload 10, 2) := by decide +kernel
theorem dL_isSo_97 : decode cL_isSo 97 = .ok (.aload_n 1, 1) := by decide +kernel
theorem dL_isSo_98 : decode cL_isSo 98 = .ok (.iconst 3, 1) := by decide +kernel
theorem dL_isSo_99 : decode cL_isSo 99 = .ok (.iaload, 1) := by decide +kernel
theorem dL_isSo_100 : decode cL_isSo 100 = .ok (.if_icmp .ge 86, 3) := by decide +kernel
theorem dL_isSo_103 : decode cL_isSo 103 = .ok (.iload 5, 2) := by decide +kernel
theorem dL_isSo_105 : decode cL_isSo 105 = .ok (.ifCond .eq 81, 3) := by decide +kernel
theorem dL_isSo_108 : decode cL_isSo 108 = .ok (.iload 8, 2) := by decide +kernel
theorem dL_isSo_110 : decode cL_isSo 110 = .ok (.aload_n 2, 1) := by decide +kernel
theorem dL_isSo_111 : decode cL_isSo 111 = .ok (.iconst 3, 1) := by decide +kernel
theorem dL_isSo_112 : decode cL_isSo 112 = .ok (.iload 10, 2) := by decide +kernel
theorem dL_isSo_114 : decode cL_isSo 114 = .ok (.imul, 1) := by decide +kernel
theorem dL_isSo_115 : decode cL_isSo 115 = .ok (.iaload, 1) := by decide +kernel
theorem dL_isSo_116 : decode cL_isSo 116 = .ok (.iconst 2, 1) := by decide +kernel
theorem dL_isSo_117 : decode cL_isSo 117 = .ok (.if_icmp .eq 13, 3) := by decide +kernel
theorem dL_isSo_120 : decode cL_isSo 120 = .ok (.aload_n 2, 1) := by decide +kernel
theorem dL_isSo_121 : decode cL_isSo 121 = .ok (.iconst 3, 1) := by decide +kernel
theorem dL_isSo_122 : decode cL_isSo 122 = .ok (.iload 10, 2) := by decide +kernel
theorem dL_isSo_124 : decode cL_isSo 124 = .ok (.imul, 1) := by decide +kernel
theorem dL_isSo_125 : decode cL_isSo 125 = .ok (.iaload, 1) := by decide +kernel
theorem dL_isSo_126 : decode cL_isSo 126 = .ok (.iconst 3, 1) := by decide +kernel
theorem dL_isSo_127 : decode cL_isSo 127 = .ok (.if_icmp .ne 7, 3) := by decide +kernel
theorem dL_isSo_130 : decode cL_isSo 130 = .ok (.iconst 1, 1) := by decide +kernel
theorem dL_isSo_131 : decode cL_isSo 131 = .ok (.goto 4, 3) := by decide +kernel
theorem dL_isSo_134 : decode cL_isSo 134 = .ok (.iconst 0, 1) := by decide +kernel
theorem dL_isSo_135 : decode cL_isSo 135 = .ok (.iadd, 1) := by decide +kernel
theorem dL_isSo_136 : decode cL_isSo 136 = .ok (.istore 8, 2) := by decide +kernel
theorem dL_isSo_138 : decode cL_isSo 138 = .ok (.aload_n 2, 1) := by decide +kernel
theorem dL_isSo_139 : decode cL_isSo 139 = .ok (.iconst 3, 1) := by decide +kernel
theorem dL_isSo_140 : decode cL_isSo 140 = .ok (.iload 10, 2) := by decide +kernel
theorem dL_isSo_142 : decode cL_isSo 142 = .ok (.imul, 1) := by decide +kernel
theorem dL_isSo_143 : decode cL_isSo 143 = .ok (.iaload, 1) := by decide +kernel
theorem dL_isSo_144 : decode cL_isSo 144 = .ok (.iconst 1, 1) := by decide +kernel
theorem dL_isSo_145 : decode cL_isSo 145 = .ok (.if_icmp .ne 35, 3) := by decide +kernel
theorem dL_isSo_148 : decode cL_isSo 148 = .ok (.aload_n 0, 1) := by decide +kernel
theorem dL_isSo_149 : decode cL_isSo 149 = .ok (.iload 9, 2) := by decide +kernel
theorem dL_isSo_151 : decode cL_isSo 151 = .ok (.invokestatic 186, 3) := by decide +kernel
theorem dL_isSo_154 : decode cL_isSo 154 = .ok (.aload_n 3, 1) := by decide +kernel
theorem dL_isSo_155 : decode cL_isSo 155 = .ok (.bipush 20, 2) := by decide +kernel
theorem dL_isSo_157 : decode cL_isSo 157 = .ok (.aload_n 2, 1) := by decide +kernel
theorem dL_isSo_158 : decode cL_isSo 158 = .ok (.iconst 3, 1) := by decide +kernel
theorem dL_isSo_159 : decode cL_isSo 159 = .ok (.iload 10, 2) := by decide +kernel
theorem dL_isSo_161 : decode cL_isSo 161 = .ok (.imul, 1) := by decide +kernel
theorem dL_isSo_162 : decode cL_isSo 162 = .ok (.iconst 2, 1) := by decide +kernel
theorem dL_isSo_163 : decode cL_isSo 163 = .ok (.iadd, 1) := by decide +kernel
theorem dL_isSo_164 : decode cL_isSo 164 = .ok (.iaload, 1) := by decide +kernel
theorem dL_isSo_165 : decode cL_isSo 165 = .ok (.iadd, 1) := by decide +kernel
theorem dL_isSo_166 : decode cL_isSo 166 = .ok (.iaload, 1) := by decide +kernel
theorem dL_isSo_167 : decode cL_isSo 167 = .ok (.if_icmp .ne 7, 3) := by decide +kernel
theorem dL_isSo_170 : decode cL_isSo 170 = .ok (.iconst 1, 1) := by decide +kernel
theorem dL_isSo_171 : decode cL_isSo 171 = .ok (.goto 4, 3) := by decide +kernel
theorem dL_isSo_174 : decode cL_isSo 174 = .ok (.iconst 0, 1) := by decide +kernel
theorem dL_isSo_175 : decode cL_isSo 175 = .ok (.istore 5, 2) := by decide +kernel
theorem dL_isSo_177 : decode cL_isSo 177 = .ok (.iinc 9 1, 3) := by decide +kernel
theorem dL_isSo_180 : decode cL_isSo 180 = .ok (.iinc 10 1, 3) := by decide +kernel
theorem dL_isSo_183 : decode cL_isSo 183 = .ok (.goto (-88), 3) := by decide +kernel
theorem dL_isSo_186 : decode cL_isSo 186 = .ok (.iconst 0, 1) := by decide +kernel
theorem dL_isSo_187 : decode cL_isSo 187 = .ok (.istore 10, 2) := by decide +kernel
theorem dL_isSo_189 : decode cL_isSo 189 = .ok (.iload 10, 2) := by decide +kernel
theorem dL_isSo_191 : decode cL_isSo 191 = .ok (.aload_n 1, 1) := by decide +kernel
theorem dL_isSo_192 : decode cL_isSo 192 = .ok (.iconst 4, 1) := by decide +kernel
theorem dL_isSo_193 : decode cL_isSo 193 = .ok (.iaload, 1) := by decide +kernel
theorem dL_isSo_194 : decode cL_isSo 194 = .ok (.if_icmp .ge 40, 3) := by decide +kernel
theorem dL_isSo_197 : decode cL_isSo 197 = .ok (.iload 5, 2) := by decide +kernel
theorem dL_isSo_199 : decode cL_isSo 199 = .ok (.ifCond .eq 35, 3) := by decide +kernel
theorem dL_isSo_202 : decode cL_isSo 202 = .ok (.aload_n 0, 1) := by decide +kernel
theorem dL_isSo_203 : decode cL_isSo 203 = .ok (.iload 10, 2) := by decide +kernel
theorem dL_isSo_205 : decode cL_isSo 205 = .ok (.invokestatic 189, 3) := by decide +kernel
theorem dL_isSo_208 : decode cL_isSo 208 = .ok (.aload_n 3, 1) := by decide +kernel
theorem dL_isSo_209 : decode cL_isSo 209 = .ok (.bipush 20, 2) := by decide +kernel
theorem dL_isSo_211 : decode cL_isSo 211 = .ok (.aload 4, 2) := by decide +kernel
theorem dL_isSo_213 : decode cL_isSo 213 = .ok (.iload 10, 2) := by decide +kernel
theorem dL_isSo_215 : decode cL_isSo 215 = .ok (.iaload, 1) := by decide +kernel
theorem dL_isSo_216 : decode cL_isSo 216 = .ok (.iadd, 1) := by decide +kernel
theorem dL_isSo_217 : decode cL_isSo 217 = .ok (.iaload, 1) := by decide +kernel
theorem dL_isSo_218 : decode cL_isSo 218 = .ok (.if_icmp .ne 7, 3) := by decide +kernel
theorem dL_isSo_221 : decode cL_isSo 221 = .ok (.iconst 1, 1) := by decide +kernel
theorem dL_isSo_222 : decode cL_isSo 222 = .ok (.goto 4, 3) := by decide +kernel
theorem dL_isSo_225 : decode cL_isSo 225 = .ok (.iconst 0, 1) := by decide +kernel
theorem dL_isSo_226 : decode cL_isSo 226 = .ok (.istore 5, 2) := by decide +kernel
theorem dL_isSo_228 : decode cL_isSo 228 = .ok (.iinc 10 1, 3) := by decide +kernel
theorem dL_isSo_231 : decode cL_isSo 231 = .ok (.goto (-42), 3) := by decide +kernel
theorem dL_isSo_234 : decode cL_isSo 234 = .ok (.iload 5, 2) := by decide +kernel
theorem dL_isSo_236 : decode cL_isSo 236 = .ok (.ifCond .eq 114, 3) := by decide +kernel
theorem dL_isSo_239 : decode cL_isSo 239 = .ok (.aload_n 0, 1) := by decide +kernel
theorem dL_isSo_240 : decode cL_isSo 240 = .ok (.iload 9, 2) := by decide +kernel
theorem dL_isSo_242 : decode cL_isSo 242 = .ok (.invokestatic 186, 3) := by decide +kernel
theorem dL_isSo_245 : decode cL_isSo 245 = .ok (.iconst (-1), 1) := by decide +kernel
theorem dL_isSo_246 : decode cL_isSo 246 = .ok (.if_icmp .ne 104, 3) := by decide +kernel
theorem dL_isSo_249 : decode cL_isSo 249 = .ok (.aload_n 0, 1) := by decide +kernel
theorem dL_isSo_250 : decode cL_isSo 250 = .ok (.aload_n 1, 1) := by decide +kernel
theorem dL_isSo_251 : decode cL_isSo 251 = .ok (.iconst 4, 1) := by decide +kernel
theorem dL_isSo_252 : decode cL_isSo 252 = .ok (.iaload, 1) := by decide +kernel
theorem dL_isSo_253 : decode cL_isSo 253 = .ok (.invokestatic 189, 3) := by decide +kernel
theorem dL_isSo_256 : decode cL_isSo 256 = .ok (.iconst (-1), 1) := by decide +kernel
theorem dL_isSo_257 : decode cL_isSo 257 = .ok (.if_icmp .ne 93, 3) := by decide +kernel
theorem dL_isSo_260 : decode cL_isSo 260 = .ok (.aload_n 0, 1) := by decide +kernel
theorem dL_isSo_261 : decode cL_isSo 261 = .ok (.iconst 0, 1) := by decide +kernel
theorem dL_isSo_262 : decode cL_isSo 262 = .ok (.invokestatic 192, 3) := by decide +kernel
theorem dL_isSo_265 : decode cL_isSo 265 = .ok (.aload_n 1, 1) := by decide +kernel
theorem dL_isSo_266 : decode cL_isSo 266 = .ok (.iconst 0, 1) := by decide +kernel
theorem dL_isSo_267 : decode cL_isSo 267 = .ok (.iaload, 1) := by decide +kernel
theorem dL_isSo_268 : decode cL_isSo 268 = .ok (.if_icmp .ne 82, 3) := by decide +kernel
theorem dL_isSo_271 : decode cL_isSo 271 = .ok (.aload_n 0, 1) := by decide +kernel
theorem dL_isSo_272 : decode cL_isSo 272 = .ok (.iconst 1, 1) := by decide +kernel
theorem dL_isSo_273 : decode cL_isSo 273 = .ok (.invokestatic 192, 3) := by decide +kernel
theorem dL_isSo_276 : decode cL_isSo 276 = .ok (.aload_n 1, 1) := by decide +kernel
theorem dL_isSo_277 : decode cL_isSo 277 = .ok (.iconst 1, 1) := by decide +kernel
theorem dL_isSo_278 : decode cL_isSo 278 = .ok (.iaload, 1) := by decide +kernel
theorem dL_isSo_279 : decode cL_isSo 279 = .ok (.if_icmp .ne 71, 3) := by decide +kernel
theorem dL_isSo_282 : decode cL_isSo 282 = .ok (.aload_n 0, 1) := by decide +kernel
theorem dL_isSo_283 : decode cL_isSo 283 = .ok (.iconst 2, 1) := by decide +kernel
theorem dL_isSo_284 : decode cL_isSo 284 = .ok (.invokestatic 192, 3) := by decide +kernel
theorem dL_isSo_287 : decode cL_isSo 287 = .ok (.aload_n 1, 1) := by decide +kernel
theorem dL_isSo_288 : decode cL_isSo 288 = .ok (.iconst 2, 1) := by decide +kernel
theorem dL_isSo_289 : decode cL_isSo 289 = .ok (.iaload, 1) := by decide +kernel
theorem dL_isSo_290 : decode cL_isSo 290 = .ok (.if_icmp .ne 60, 3) := by decide +kernel
theorem dL_isSo_293 : decode cL_isSo 293 = .ok (.aload_n 0, 1) := by decide +kernel
theorem dL_isSo_294 : decode cL_isSo 294 = .ok (.iconst 3, 1) := by decide +kernel
theorem dL_isSo_295 : decode cL_isSo 295 = .ok (.invokestatic 192, 3) := by decide +kernel
theorem dL_isSo_298 : decode cL_isSo 298 = .ok (.iload 6, 2) := by decide +kernel
theorem dL_isSo_300 : decode cL_isSo 300 = .ok (.if_icmp .ne 50, 3) := by decide +kernel
theorem dL_isSo_303 : decode cL_isSo 303 = .ok (.aload_n 0, 1) := by decide +kernel
theorem dL_isSo_304 : decode cL_isSo 304 = .ok (.iconst 4, 1) := by decide +kernel
theorem dL_isSo_305 : decode cL_isSo 305 = .ok (.invokestatic 192, 3) := by decide +kernel
theorem dL_isSo_308 : decode cL_isSo 308 = .ok (.iload 7, 2) := by decide +kernel
theorem dL_isSo_310 : decode cL_isSo 310 = .ok (.if_icmp .ne 40, 3) := by decide +kernel
theorem dL_isSo_313 : decode cL_isSo 313 = .ok (.aload_n 0, 1) := by decide +kernel
theorem dL_isSo_314 : decode cL_isSo 314 = .ok (.iconst 5, 1) := by decide +kernel
theorem dL_isSo_315 : decode cL_isSo 315 = .ok (.invokestatic 192, 3) := by decide +kernel
theorem dL_isSo_318 : decode cL_isSo 318 = .ok (.iload 9, 2) := by decide +kernel
theorem dL_isSo_320 : decode cL_isSo 320 = .ok (.if_icmp .ne 30, 3) := by decide +kernel
theorem dL_isSo_323 : decode cL_isSo 323 = .ok (.aload_n 0, 1) := by decide +kernel
theorem dL_isSo_324 : decode cL_isSo 324 = .ok (.bipush 6, 2) := by decide +kernel
theorem dL_isSo_326 : decode cL_isSo 326 = .ok (.invokestatic 192, 3) := by decide +kernel
theorem dL_isSo_329 : decode cL_isSo 329 = .ok (.iload 8, 2) := by decide +kernel
theorem dL_isSo_331 : decode cL_isSo 331 = .ok (.if_icmp .ne 19, 3) := by decide +kernel
theorem dL_isSo_334 : decode cL_isSo 334 = .ok (.aload_n 0, 1) := by decide +kernel
theorem dL_isSo_335 : decode cL_isSo 335 = .ok (.bipush 7, 2) := by decide +kernel
theorem dL_isSo_337 : decode cL_isSo 337 = .ok (.invokestatic 192, 3) := by decide +kernel
theorem dL_isSo_340 : decode cL_isSo 340 = .ok (.aload_n 1, 1) := by decide +kernel
theorem dL_isSo_341 : decode cL_isSo 341 = .ok (.iconst 4, 1) := by decide +kernel
theorem dL_isSo_342 : decode cL_isSo 342 = .ok (.iaload, 1) := by decide +kernel
theorem dL_isSo_343 : decode cL_isSo 343 = .ok (.if_icmp .ne 7, 3) := by decide +kernel
theorem dL_isSo_346 : decode cL_isSo 346 = .ok (.iconst 1, 1) := by decide +kernel
theorem dL_isSo_347 : decode cL_isSo 347 = .ok (.goto 4, 3) := by decide +kernel
theorem dL_isSo_350 : decode cL_isSo 350 = .ok (.iconst 0, 1) := by decide +kernel
theorem dL_isSo_351 : decode cL_isSo 351 = .ok (.ireturn, 1) := by decide +kernel
set_option maxHeartbeats 2000000 in
theorem l_isSo (hG : GP G) (hA : hasS S o (.inr (.inr (6, ks)))) (hL : LwS S w) (hR : R32 mu) (hm : 0 ≤ mu w 2 ∧ mu w 2 ≤ 5) (hs : 0 ≤ mu w 3 ∧ mu w 3 ≤ 16) (hF : 0 ≤ mu w 4 ∧ mu w 4 ≤ 5) {f1 f2 f3 : Nat} (hf : f1 ≤ 7 ∧ f2 ≤ 7 ∧ f3 ≤ 7) {gv fv wv : Int → Int}
    (hP : ∀ a : Int, 0 ≤ a → a < mu w 2 → Ct G l yL_isPane wsL_isPane 9 0 0 [.ref o, .ref w, .ref (w + 1), .ref (w + 2), .int (I32 a)] S n mu la (Dt (some (.int (I32 1))) S n mu la))
    (k1 : ∀ x : Int, 0 ≤ x → x ≤ 100 → Ct G l yX8_group wsX8_group f1 0 0 [.ref o, .int (I32 x)] S n mu la (Dt (some (.int (I32 (gv x)))) S n mu la))
    (k2 : ∀ x : Int, 0 ≤ x → x ≤ 100 → Ct G l yX8_floating wsX8_floating f2 0 0 [.ref o, .int (I32 x)] S n mu la (Dt (some (.int (I32 (fv x)))) S n mu la))
    (k3 : ∀ x : Int, 0 ≤ x → x ≤ 11 → Ct G l yX8_whole wsX8_whole f3 0 0 [.ref o, .int (I32 x)] S n mu la (Dt (some (.int (I32 (wv x)))) S n mu la))
    (hgv : ∀ i : Int, 0 ≤ i → i < mu w 3 → mu (w + 1) (3 * i) = 1 → (0 ≤ mu (w + 1) (3 * i + 2) ∧ mu (w + 1) (3 * i + 2) < 5) ∧ gv (jGG (mu (w + 1)) i.toNat) = mu (w + 2) (20 + mu (w + 1) (3 * i + 2)))
    (hfv : ∀ k : Int, 0 ≤ k → k < mu w 4 → (0 ≤ mu (w + 3) k ∧ mu (w + 3) k < 5) ∧ fv k = mu (w + 2) (20 + mu (w + 3) k))
    (hg9 : gv (jG mu w) = -1) (hf9 : fv (mu w 4) = -1) (w0 : wv 0 = mu w 0) (w1 : wv 1 = mu w 1) (w2 : wv 2 = mu w 2) (w3 : wv 3 = jNG2 mu w 1 (mu w 2).toNat) (w4 : wv 4 = jNG2 mu w 2 (mu w 2).toNat) (w5 : wv 5 = jG mu w) (w6 : wv 6 = jZG (mu (w + 1)) (mu w 3).toNat) (w7 : wv 7 = mu w 4) :
    Ct G l yL_isSo wsL_isSo 11 0 0 [.ref o, .ref w, .ref (w + 1), .ref (w + 2), .ref (w + 3)] S n mu la (Dt (some (.int (I32 1))) S n mu la) := by
  have hg := hL.1
  have hq := hL.2.1
  have hp := hL.2.2.1
  have hff := hL.2.2.2
  have n1 := jNG2_b mu w 1 (mu w 2).toNat
  have n2 := jNG2_b mu w 2 (mu w 2).toNat
  have z1 := jZG_b (mu (w + 1)) (mu w 3).toNat
  have g1 : 0 ≤ jG mu w ∧ jG mu w ≤ 16 := by
    have := jGG_b (mu (w + 1)) (mu w 3).toNat
    unfold jG
    omega
  have bx : ∀ a : Int, 0 ≤ jX mu w a ∧ jX mu w a ≤ 2 := fun a => by unfold jX; (repeat' split) <;> omega
  have b0 := hR w 0
  have b1 := hR w 1
  generalize ed : jNG2 mu w 1 (mu w 2).toNat = dk at w3 n1
  generalize ef : jNG2 mu w 2 (mu w 2).toNat = fl at w4 n2
  generalize ez : jZG (mu (w + 1)) (mu w 3).toNat = sp at w6 z1
  refine Ct.ofV (cc := cL_isSo) (nL := 11) (ret := (some .boolean)) [some (.ref o), some (.ref w), some (.ref (w + 1)), some (.ref (w + 2)), some (.ref (w + 3)), none, none, none, none, none, none] hG (by decide) rfl (Nat.le_of_ble_eq_true rfl) rfl ?_
  rintro X rfl rfl C hcl hsl E
  -- the end
  have fin : ∀ k : Int, V X 234 [some (.ref o), some (.ref w), some (.ref (w + 1)), some (.ref (w + 2)), some (.ref (w + 3)), some (.int (I32 1)), some (.int (I32 dk)), some (.int (I32 fl)), some (.int (I32 sp)), some (.int (I32 (jG mu w))), some (.int (I32 k))] [] S n mu la 0 0 := by
    intro k
    have q1 := k1 (jG mu w) (by omega) (by omega)
    have q2 := k2 (mu w 4) (by omega) (by omega)
    have y0 := k3 0 (by omega) (by omega)
    have y1 := k3 1 (by omega) (by omega)
    have y2 := k3 2 (by omega) (by omega)
    have y3 := k3 3 (by omega) (by omega)
    have y4 := k3 4 (by omega) (by omega)
    have y5 := k3 5 (by omega) (by omega)
    have y6 := k3 6 (by omega) (by omega)
    have y7 := k3 7 (by omega) (by omega)
    rw [hg9] at q1
    rw [hf9] at q2
    rw [w0] at y0
    rw [w1] at y1
    rw [w2] at y2
    rw [w3] at y3
    rw [w4] at y4
    rw [w5] at y5
    rw [w6] at y6
    rw [w7] at y7
    refine V_iload C dL_isSo_234 rfl ?_
    refine V_if_eq C 350 dL_isSo_236 (by decide) (by omega) (fun c => ?_) (fun c => ?_)
    · exact absurd c (by omega)
    refine V_aload_n C dL_isSo_239 rfl ?_
    refine V_iload C dL_isSo_240 rfl ?_
    refine V_callSHD (nA := 2) C dL_isSo_242 (L_groupOf_k C.gp hA hf.1 q1) gL_isSo_L_groupOf rfl (by decide +kernel) rfl (by decide) (by decide) (Nat.le_of_ble_eq_true rfl) ⟨by omega, by omega⟩ rfl ?_
    refine V_iconst C dL_isSo_245 ?_
    refine V_icmp_ne C 350 dL_isSo_246 (by decide) (by omega) (by omega) (fun c1 => ?_) (fun c1 => ?_)
    · exact absurd rfl c1
    refine V_aload_n C dL_isSo_249 rfl ?_
    refine V_aload_n C dL_isSo_250 rfl ?_
    refine V_iconst C dL_isSo_251 ?_
    refine V_iald C dL_isSo_252 hg (by first | assumption | decide) (by omega) ?_
    refine V_callSHD (nA := 2) C dL_isSo_253 (L_floatOf_k C.gp hA hf.2.1 q2) gL_isSo_L_floatOf rfl (by decide +kernel) rfl (by decide) (by decide) (Nat.le_of_ble_eq_true rfl) ⟨by omega, by omega⟩ rfl ?_
    refine V_iconst C dL_isSo_256 ?_
    refine V_icmp_ne C 350 dL_isSo_257 (by decide) (by omega) (by omega) (fun c1 => ?_) (fun c1 => ?_)
    · exact absurd rfl c1
    refine V_aload_n C dL_isSo_260 rfl ?_
    refine V_iconst C dL_isSo_261 ?_
    refine V_callSHD (nA := 2) C dL_isSo_262 (L_wholeOf_k C.gp hA hf.2.2 y0) gL_isSo_L_wholeOf rfl (by decide +kernel) rfl (by decide) (by decide) (Nat.le_of_ble_eq_true rfl) ⟨by omega, by omega⟩ rfl ?_
    refine V_aload_n C dL_isSo_265 rfl ?_
    refine V_iconst C dL_isSo_266 ?_
    refine V_iald C dL_isSo_267 hg (by first | assumption | decide) (by omega) ?_
    refine V_icmp_ne C 350 dL_isSo_268 (by decide) (by omega) (by omega) (fun c1 => ?_) (fun c1 => ?_)
    · exact absurd rfl c1
    refine V_aload_n C dL_isSo_271 rfl ?_
    refine V_iconst C dL_isSo_272 ?_
    refine V_callSHD (nA := 2) C dL_isSo_273 (L_wholeOf_k C.gp hA hf.2.2 y1) gL_isSo_L_wholeOf rfl (by decide +kernel) rfl (by decide) (by decide) (Nat.le_of_ble_eq_true rfl) ⟨by omega, by omega⟩ rfl ?_
    refine V_aload_n C dL_isSo_276 rfl ?_
    refine V_iconst C dL_isSo_277 ?_
    refine V_iald C dL_isSo_278 hg (by first | assumption | decide) (by omega) ?_
    refine V_icmp_ne C 350 dL_isSo_279 (by decide) (by omega) (by omega) (fun c1 => ?_) (fun c1 => ?_)
    · exact absurd rfl c1
    refine V_aload_n C dL_isSo_282 rfl ?_
    refine V_iconst C dL_isSo_283 ?_
    refine V_callSHD (nA := 2) C dL_isSo_284 (L_wholeOf_k C.gp hA hf.2.2 y2) gL_isSo_L_wholeOf rfl (by decide +kernel) rfl (by decide) (by decide) (Nat.le_of_ble_eq_true rfl) ⟨by omega, by omega⟩ rfl ?_
    refine V_aload_n C dL_isSo_287 rfl ?_
    refine V_iconst C dL_isSo_288 ?_
    refine V_iald C dL_isSo_289 hg (by first | assumption | decide) (by omega) ?_
    refine V_icmp_ne C 350 dL_isSo_290 (by decide) (by omega) (by omega) (fun c1 => ?_) (fun c1 => ?_)
    · exact absurd rfl c1
    refine V_aload_n C dL_isSo_293 rfl ?_
    refine V_iconst C dL_isSo_294 ?_
    refine V_callSHD (nA := 2) C dL_isSo_295 (L_wholeOf_k C.gp hA hf.2.2 y3) gL_isSo_L_wholeOf rfl (by decide +kernel) rfl (by decide) (by decide) (Nat.le_of_ble_eq_true rfl) ⟨by omega, by omega⟩ rfl ?_
    refine V_iload C dL_isSo_298 rfl ?_
    refine V_icmp_ne C 350 dL_isSo_300 (by decide) (by omega) (by omega) (fun c1 => ?_) (fun c1 => ?_)
    · exact absurd rfl c1
    refine V_aload_n C dL_isSo_303 rfl ?_
    refine V_iconst C dL_isSo_304 ?_
    refine V_callSHD (nA := 2) C dL_isSo_305 (L_wholeOf_k C.gp hA hf.2.2 y4) gL_isSo_L_wholeOf rfl (by decide +kernel) rfl (by decide) (by decide) (Nat.le_of_ble_eq_true rfl) ⟨by omega, by omega⟩ rfl ?_
    refine V_iload C dL_isSo_308 rfl ?_
    refine V_icmp_ne C 350 dL_isSo_310 (by decide) (by omega) (by omega) (fun c1 => ?_) (fun c1 => ?_)
    · exact absurd rfl c1
    refine V_aload_n C dL_isSo_313 rfl ?_
    refine V_iconst C dL_isSo_314 ?_
    refine V_callSHD (nA := 2) C dL_isSo_315 (L_wholeOf_k C.gp hA hf.2.2 y5) gL_isSo_L_wholeOf rfl (by decide +kernel) rfl (by decide) (by decide) (Nat.le_of_ble_eq_true rfl) ⟨by omega, by omega⟩ rfl ?_
    refine V_iload C dL_isSo_318 rfl ?_
    refine V_icmp_ne C 350 dL_isSo_320 (by decide) (by omega) (by omega) (fun c1 => ?_) (fun c1 => ?_)
    · exact absurd rfl c1
    refine V_aload_n C dL_isSo_323 rfl ?_
    refine V_bipush C dL_isSo_324 (by decide +kernel) ?_
    refine V_callSHD (nA := 2) C dL_isSo_326 (L_wholeOf_k C.gp hA hf.2.2 y6) gL_isSo_L_wholeOf rfl (by decide +kernel) rfl (by decide) (by decide) (Nat.le_of_ble_eq_true rfl) ⟨by omega, by omega⟩ rfl ?_
    refine V_iload C dL_isSo_329 rfl ?_
    refine V_icmp_ne C 350 dL_isSo_331 (by decide) (by omega) (by omega) (fun c1 => ?_) (fun c1 => ?_)
    · exact absurd rfl c1
    refine V_aload_n C dL_isSo_334 rfl ?_
    refine V_bipush C dL_isSo_335 (by decide +kernel) ?_
    refine V_callSHD (nA := 2) C dL_isSo_337 (L_wholeOf_k C.gp hA hf.2.2 y7) gL_isSo_L_wholeOf rfl (by decide +kernel) rfl (by decide) (by decide) (Nat.le_of_ble_eq_true rfl) ⟨by omega, by omega⟩ rfl ?_
    refine V_aload_n C dL_isSo_340 rfl ?_
    refine V_iconst C dL_isSo_341 ?_
    refine V_iald C dL_isSo_342 hg (by first | assumption | decide) (by omega) ?_
    refine V_icmp_ne C 350 dL_isSo_343 (by decide) (by omega) (by omega) (fun c1 => ?_) (fun c1 => ?_)
    · exact absurd rfl c1
    refine V_iconst C dL_isSo_346 ?_
    refine V_goto C 351 dL_isSo_347 (by decide) ?_
    refine V_zreturn C E (by first | exact Or.inl rfl | exact Or.inr rfl | simp) dL_isSo_351 (by omega) (by omega) ?_
    exact Dt_rfl
  -- the floating groups
  have flo : ∀ (m : Nat) (k : Int), 0 ≤ k → k + m = mu w 4 → V X 189 [some (.ref o), some (.ref w), some (.ref (w + 1)), some (.ref (w + 2)), some (.ref (w + 3)), some (.int (I32 1)), some (.int (I32 dk)), some (.int (I32 fl)), some (.int (I32 sp)), some (.int (I32 (jG mu w))), some (.int (I32 k))] [] S n mu la 0 0 := by
    intro m
    induction m with
    | zero =>
      intro k y1 y2
      refine V_iload C dL_isSo_189 rfl ?_
      refine V_aload_n C dL_isSo_191 rfl ?_
      refine V_iconst C dL_isSo_192 ?_
      refine V_iald C dL_isSo_193 hg (by first | assumption | decide) (by omega) ?_
      refine V_icmp_ge C 234 dL_isSo_194 (by decide) (by omega) (by omega) (fun c => ?_) (fun c => ?_)
      · exact fin k
      · exact absurd c (by omega)
    | succ m ih =>
      intro k y1 y2
      have ih := ih (k + 1) (by omega) (by omega)
      obtain ⟨t1, t2⟩ := hfv k y1 (by omega)
      have q := k2 k y1 (by omega)
      rw [t2] at q
      have bb := hR (w + 2) (20 + mu (w + 3) k)
      refine V_iload C dL_isSo_189 rfl ?_
      refine V_aload_n C dL_isSo_191 rfl ?_
      refine V_iconst C dL_isSo_192 ?_
      refine V_iald C dL_isSo_193 hg (by first | assumption | decide) (by omega) ?_
      refine V_icmp_ge C 234 dL_isSo_194 (by decide) (by omega) (by omega) (fun c => ?_) (fun c => ?_)
      · exact absurd c (by omega)
      refine V_iload C dL_isSo_197 rfl ?_
      refine V_if_eq C 234 dL_isSo_199 (by decide) (by omega) (fun c1 => ?_) (fun c1 => ?_)
      · exact absurd c1 (by omega)
      refine V_aload_n C dL_isSo_202 rfl ?_
      refine V_iload C dL_isSo_203 rfl ?_
      refine V_callSHD (nA := 2) C dL_isSo_205 (L_floatOf_k C.gp hA hf.2.1 q) gL_isSo_L_floatOf rfl (by decide +kernel) rfl (by decide) (by decide) (Nat.le_of_ble_eq_true rfl) ⟨by omega, by omega⟩ rfl ?_
      refine V_aload_n C dL_isSo_208 rfl ?_
      refine V_bipush C dL_isSo_209 (by decide +kernel) ?_
      refine V_aload C dL_isSo_211 rfl ?_
      refine V_iload C dL_isSo_213 rfl ?_
      refine V_iald C dL_isSo_215 hff (by first | assumption | decide) (by omega) ?_
      refine V_iadd C dL_isSo_216 ?_
      refine V_iald C dL_isSo_217 hp (by first | assumption | decide) (by omega) ?_
      refine V_icmp_ne C 225 dL_isSo_218 (by decide) (by omega) (by omega) (fun c2 => ?_) (fun c2 => ?_)
      · exact absurd rfl c2
      refine V_iconst C dL_isSo_221 ?_
      refine V_goto C 226 dL_isSo_222 (by decide) ?_
      refine V_istore C dL_isSo_226 rfl (by decide) ?_
      refine V_iinc C dL_isSo_228 rfl rfl (by decide) ?_
      refine V_goto C 189 dL_isSo_231 (by decide) ?_
      exact ih
  -- the signs
  have sig : ∀ (m : Nat) (i : Int), 0 ≤ i → i + m = mu w 3 → V X 95 [some (.ref o), some (.ref w), some (.ref (w + 1)), some (.ref (w + 2)), some (.ref (w + 3)), some (.int (I32 1)), some (.int (I32 dk)), some (.int (I32 fl)), some (.int (I32 (jZG (mu (w + 1)) i.toNat))), some (.int (I32 (jGG (mu (w + 1)) i.toNat))), some (.int (I32 i))] [] S n mu la 0 0 := by
    intro m
    induction m with
    | zero =>
      intro i y1 y2
      have ei : i = mu w 3 := by omega
      have go := flo (mu w 4).toNat 0 (by omega) (by omega)
      rw [← ez] at go
      subst ei
      refine V_iload C dL_isSo_95 rfl ?_
      refine V_aload_n C dL_isSo_97 rfl ?_
      refine V_iconst C dL_isSo_98 ?_
      refine V_iald C dL_isSo_99 hg (by first | assumption | decide) (by omega) ?_
      refine V_icmp_ge C 186 dL_isSo_100 (by decide) (by omega) (by omega) (fun c => ?_) (fun c => ?_)
      · refine V_iconst C dL_isSo_186 ?_
        refine V_istore C dL_isSo_187 rfl (by decide) ?_
        exact go
      · exact absurd c (by omega)
    | succ m ih =>
      intro i y1 y2
      have ih := ih (i + 1) (by omega) (by omega)
      rw [jZG_s y1, jGG_s y1] at ih
      have bb := hR (w + 1) (3 * i)
      have gb := jGG_b (mu (w + 1)) i.toNat
      -- behind the count of splits
      have leaf : V X 138 [some (.ref o), some (.ref w), some (.ref (w + 1)), some (.ref (w + 2)), some (.ref (w + 3)), some (.int (I32 1)), some (.int (I32 dk)), some (.int (I32 fl)), some (.int (I32 (jZG (mu (w + 1)) i.toNat + (if mu (w + 1) (3 * i) = 2 ∨ mu (w + 1) (3 * i) = 3 then 1 else 0)))), some (.int (I32 (jGG (mu (w + 1)) i.toNat))), some (.int (I32 i))] [] S n mu la 0 0 := by
        refine V_aload_n C dL_isSo_138 rfl ?_
        refine V_iconst C dL_isSo_139 ?_
        refine V_iload C dL_isSo_140 rfl ?_
        refine V_imul C dL_isSo_142 ?_
        refine V_iald C dL_isSo_143 hq (by first | assumption | decide) (by omega) ?_
        refine V_iconst C dL_isSo_144 ?_
        refine V_icmp_ne C 180 dL_isSo_145 (by decide) (by omega) (by omega) (fun c3 => ?_) (fun c3 => ?_)
        · rw [if_neg c3, Int.add_zero] at ih
          refine V_iinc C dL_isSo_180 rfl rfl (by decide) ?_
          refine V_goto C 95 dL_isSo_183 (by decide) ?_
          exact ih
        · rw [if_pos c3] at ih
          obtain ⟨t1, t2⟩ := hgv i y1 (by omega) c3
          have q := k1 (jGG (mu (w + 1)) i.toNat) (by omega) (by omega)
          rw [t2] at q
          have b2 := hR (w + 2) (20 + mu (w + 1) (3 * i + 2))
          refine V_aload_n C dL_isSo_148 rfl ?_
          refine V_iload C dL_isSo_149 rfl ?_
          refine V_callSHD (nA := 2) C dL_isSo_151 (L_groupOf_k C.gp hA hf.1 q) gL_isSo_L_groupOf rfl (by decide +kernel) rfl (by decide) (by decide) (Nat.le_of_ble_eq_true rfl) ⟨by omega, by omega⟩ rfl ?_
          refine V_aload_n C dL_isSo_154 rfl ?_
          refine V_bipush C dL_isSo_155 (by decide +kernel) ?_
          refine V_aload_n C dL_isSo_157 rfl ?_
          refine V_iconst C dL_isSo_158 ?_
          refine V_iload C dL_isSo_159 rfl ?_
          refine V_imul C dL_isSo_161 ?_
          refine V_iconst C dL_isSo_162 ?_
          refine V_iadd C dL_isSo_163 ?_
          refine V_iald C dL_isSo_164 hq (by first | assumption | decide) (by omega) ?_
          refine V_iadd C dL_isSo_165 ?_
          refine V_iald C dL_isSo_166 hp (by first | assumption | decide) (by omega) ?_
          refine V_icmp_ne C 174 dL_isSo_167 (by decide) (by omega) (by omega) (fun c4 => ?_) (fun c4 => ?_)
          · exact absurd rfl c4
          refine V_iconst C dL_isSo_170 ?_
          refine V_goto C 175 dL_isSo_171 (by decide) ?_
          refine V_istore C dL_isSo_175 rfl (by decide) ?_
          refine V_iinc C dL_isSo_177 rfl rfl (by decide) ?_
          refine V_iinc C dL_isSo_180 rfl rfl (by decide) ?_
          refine V_goto C 95 dL_isSo_183 (by decide) ?_
          exact ih
      refine V_iload C dL_isSo_95 rfl ?_
      refine V_aload_n C dL_isSo_97 rfl ?_
      refine V_iconst C dL_isSo_98 ?_
      refine V_iald C dL_isSo_99 hg (by first | assumption | decide) (by omega) ?_
      refine V_icmp_ge C 186 dL_isSo_100 (by decide) (by omega) (by omega) (fun c => ?_) (fun c => ?_)
      · exact absurd c (by omega)
      refine V_iload C dL_isSo_103 rfl ?_
      refine V_if_eq C 186 dL_isSo_105 (by decide) (by omega) (fun c1 => ?_) (fun c1 => ?_)
      · exact absurd c1 (by omega)
      refine V_iload C dL_isSo_108 rfl ?_
      refine V_aload_n C dL_isSo_110 rfl ?_
      refine V_iconst C dL_isSo_111 ?_
      refine V_iload C dL_isSo_112 rfl ?_
      refine V_imul C dL_isSo_114 ?_
      refine V_iald C dL_isSo_115 hq (by first | assumption | decide) (by omega) ?_
      refine V_iconst C dL_isSo_116 ?_
      refine V_icmp_eq C 130 dL_isSo_117 (by decide) (by omega) (by omega) (fun c2 => ?_) (fun c2 => ?_)
      · rw [if_pos (Or.inl c2)] at leaf
        refine V_iconst C dL_isSo_130 ?_
        refine V_goto C 135 dL_isSo_131 (by decide) ?_
        refine V_iadd C dL_isSo_135 ?_
        refine V_istore C dL_isSo_136 rfl (by decide) ?_
        exact leaf
      · refine V_aload_n C dL_isSo_120 rfl ?_
        refine V_iconst C dL_isSo_121 ?_
        refine V_iload C dL_isSo_122 rfl ?_
        refine V_imul C dL_isSo_124 ?_
        refine V_iald C dL_isSo_125 hq (by first | assumption | decide) (by omega) ?_
        refine V_iconst C dL_isSo_126 ?_
        refine V_icmp_ne C 134 dL_isSo_127 (by decide) (by omega) (by omega) (fun c3 => ?_) (fun c3 => ?_)
        · rw [if_neg (by omega)] at leaf
          refine V_iconst C dL_isSo_134 ?_
          refine V_iadd C dL_isSo_135 ?_
          refine V_istore C dL_isSo_136 rfl (by decide) ?_
          exact leaf
        · rw [if_pos (Or.inr c3)] at leaf
          refine V_iconst C dL_isSo_130 ?_
          refine V_goto C 135 dL_isSo_131 (by decide) ?_
          refine V_iadd C dL_isSo_135 ?_
          refine V_istore C dL_isSo_136 rfl (by decide) ?_
          exact leaf
  -- the panes
  have pan : ∀ (m : Nat) (a : Int), 0 ≤ a → a + m = mu w 2 → V X 18 [some (.ref o), some (.ref w), some (.ref (w + 1)), some (.ref (w + 2)), some (.ref (w + 3)), some (.int (I32 1)), some (.int (I32 (jNG2 mu w 1 a.toNat))), some (.int (I32 (jNG2 mu w 2 a.toNat))), some (.int (I32 0)), some (.int (I32 0)), some (.int (I32 a))] [] S n mu la 0 0 := by
    intro m
    induction m with
    | zero =>
      intro a y1 y2
      have ea : a = mu w 2 := by omega
      have go := sig (mu w 3).toNat 0 (by omega) (by omega)
      rw [← ed, ← ef] at go
      subst ea
      refine V_iload C dL_isSo_18 rfl ?_
      refine V_aload_n C dL_isSo_20 rfl ?_
      refine V_iconst C dL_isSo_21 ?_
      refine V_iald C dL_isSo_22 hg (by first | assumption | decide) (by omega) ?_
      refine V_icmp_ge C 92 dL_isSo_23 (by decide) (by omega) (by omega) (fun c => ?_) (fun c => ?_)
      · refine V_iconst C dL_isSo_92 ?_
        refine V_istore C dL_isSo_93 rfl (by decide) ?_
        exact go
      · exact absurd c (by omega)
    | succ m ih =>
      intro a y1 y2
      have ih := ih (a + 1) (by omega) (by omega)
      rw [jNG2_s y1, jNG2_s y1] at ih
      have bb := bx a
      have hPa := hP a y1 (by omega)
      -- the last third
      have last : V X 75 [some (.ref o), some (.ref w), some (.ref (w + 1)), some (.ref (w + 2)), some (.ref (w + 3)), some (.int (I32 1)), some (.int (I32 (jNG2 mu w 1 a.toNat + (if jX mu w a = 1 then 1 else 0)))), some (.int (I32 (jNG2 mu w 2 a.toNat + (if jX mu w a = 2 then 1 else 0)))), some (.int (I32 0)), some (.int (I32 0)), some (.int (I32 a))] [] S n mu la 0 0 := by
        refine V_aload_n C dL_isSo_75 rfl ?_
        refine V_aload_n C dL_isSo_76 rfl ?_
        refine V_aload_n C dL_isSo_77 rfl ?_
        refine V_aload_n C dL_isSo_78 rfl ?_
        refine V_iload C dL_isSo_79 rfl ?_
        refine V_callS2D (nA := 5) C dL_isSo_81 hPa gL_isSo_L_isPane rfl (by decide +kernel) rfl (by decide) (by decide) (Nat.le_of_ble_eq_true rfl) ⟨by omega, by omega⟩ rfl ?_
        refine V_istore C dL_isSo_84 rfl (by decide) ?_
        refine V_iinc C dL_isSo_86 rfl rfl (by decide) ?_
        refine V_goto C 18 dL_isSo_89 (by decide) ?_
        exact ih
      have mid : V X 53 [some (.ref o), some (.ref w), some (.ref (w + 1)), some (.ref (w + 2)), some (.ref (w + 3)), some (.int (I32 1)), some (.int (I32 (jNG2 mu w 1 a.toNat + (if jX mu w a = 1 then 1 else 0)))), some (.int (I32 (jNG2 mu w 2 a.toNat))), some (.int (I32 0)), some (.int (I32 0)), some (.int (I32 a))] [] S n mu la 0 0 := by
        refine V_iload C dL_isSo_53 rfl ?_
        refine V_aload_n C dL_isSo_55 rfl ?_
        refine V_aload_n C dL_isSo_56 rfl ?_
        refine V_aload_n C dL_isSo_57 rfl ?_
        refine V_iload C dL_isSo_58 rfl ?_
        refine V_callSD (nA := 4) C dL_isSo_60 (l_state C.gp hL hR ⟨by omega, by omega⟩ hs) gL_isSo_L_state rfl (by decide +kernel) rfl (by decide) (by decide) (Nat.le_of_ble_eq_true rfl) ⟨by omega, by omega⟩ rfl ?_
        refine V_iconst C dL_isSo_63 ?_
        refine V_icmp_ne C 71 dL_isSo_64 (by decide) (by omega) (by omega) (fun c1 => ?_) (fun c1 => ?_)
        · rw [if_neg (c := jX mu w a = 2) c1] at last
          refine V_iconst C dL_isSo_71 ?_
          refine V_iadd C dL_isSo_72 ?_
          refine V_istore C dL_isSo_73 rfl (by decide) ?_
          exact last
        · rw [if_pos (c := jX mu w a = 2) c1] at last
          refine V_iconst C dL_isSo_67 ?_
          refine V_goto C 72 dL_isSo_68 (by decide) ?_
          refine V_iadd C dL_isSo_72 ?_
          refine V_istore C dL_isSo_73 rfl (by decide) ?_
          exact last
      refine V_iload C dL_isSo_18 rfl ?_
      refine V_aload_n C dL_isSo_20 rfl ?_
      refine V_iconst C dL_isSo_21 ?_
      refine V_iald C dL_isSo_22 hg (by first | assumption | decide) (by omega) ?_
      refine V_icmp_ge C 92 dL_isSo_23 (by decide) (by omega) (by omega) (fun c => ?_) (fun c => ?_)
      · exact absurd c (by omega)
      refine V_iload C dL_isSo_26 rfl ?_
      refine V_if_eq C 92 dL_isSo_28 (by decide) (by omega) (fun c1 => ?_) (fun c1 => ?_)
      · exact absurd c1 (by omega)
      refine V_iload C dL_isSo_31 rfl ?_
      refine V_aload_n C dL_isSo_33 rfl ?_
      refine V_aload_n C dL_isSo_34 rfl ?_
      refine V_aload_n C dL_isSo_35 rfl ?_
      refine V_iload C dL_isSo_36 rfl ?_
      refine V_callSD (nA := 4) C dL_isSo_38 (l_state C.gp hL hR ⟨by omega, by omega⟩ hs) gL_isSo_L_state rfl (by decide +kernel) rfl (by decide) (by decide) (Nat.le_of_ble_eq_true rfl) ⟨by omega, by omega⟩ rfl ?_
      refine V_iconst C dL_isSo_41 ?_
      refine V_icmp_ne C 49 dL_isSo_42 (by decide) (by omega) (by omega) (fun c2 => ?_) (fun c2 => ?_)
      · rw [if_neg c2] at mid
        refine V_iconst C dL_isSo_49 ?_
        refine V_iadd C dL_isSo_50 ?_
        refine V_istore C dL_isSo_51 rfl (by decide) ?_
        exact mid
      · rw [if_pos c2] at mid
        refine V_iconst C dL_isSo_45 ?_
        refine V_goto C 50 dL_isSo_46 (by decide) ?_
        refine V_iadd C dL_isSo_50 ?_
        refine V_istore C dL_isSo_51 rfl (by decide) ?_
        exact mid
  have go := pan (mu w 2).toNat 0 (by omega) (by omega)
  refine V_iconst C dL_isSo_0 ?_
  refine V_istore C dL_isSo_1 rfl (by decide) ?_
  refine V_iconst C dL_isSo_3 ?_
  refine V_istore C dL_isSo_4 rfl (by decide) ?_
  refine V_iconst C dL_isSo_6 ?_
  refine V_istore C dL_isSo_7 rfl (by decide) ?_
  refine V_iconst C dL_isSo_9 ?_
  refine V_istore C dL_isSo_10 rfl (by decide) ?_
  refine V_iconst C dL_isSo_12 ?_
  refine V_istore C dL_isSo_13 rfl (by decide) ?_
  refine V_iconst C dL_isSo_15 ?_
  refine V_istore C dL_isSo_16 rfl (by decide) ?_
  exact go
end LQ
