/-! THE LAW: cases 0 to 5 -/
set_option maxRecDepth 20000 in
theorem ggL_law_X9_thrown : GoodIn wsL_law wsX9_thrown := goodIn_r _ [346, 326, 1355, 1356, 1357, 1358, 1359, 1360, 1361, 1362, 1363, 1364, 1365, 1366, 1367, 1368, 1369, 1370, 1371, 1372, 1373, 1374, 1375, 1376, 1377, 1378] (by decide +kernel) (by decide +kernel)
set_option maxRecDepth 20000 in
theorem gL_law_X9_thrown : GoodIn wsL_law (wsV RL 108 RX9 yX9_thrown wsX9_thrown) := goodIn_app (goodIn_of _ (by decide +kernel)) ggL_law_X9_thrown
section LC
variable {X : Cx} {S : Sh} {n : Nat} {mu mu1 mu2 : Mem} {la la1 la2 : Lam} {k sl a r o b N : Nat} {xs : Nat → Int32} {ks : List Sk} {i c v : Int}
set_option maxRecDepth 20000 in
theorem ggL_law_L_setWindow : GoodIn wsL_law wsL_setWindow := goodIn_ca (goodIn_ca (goodIn_ca (goodIn_s _ [(121, 5), (2, 1), (126, 1), (20, 1), (16, 1), (127, 18), (19, 1), (145, 11), (67, 1), (156, 3), (15, 1), (159, 1), (38, 2), (160, 1), (41, 1), (43, 1), (45, 1), (161, 10), (31, 1), (171, 1), (50, 8), (172, 4), (44, 1), (176, 10), (28, 1), (186, 3), (27, 1), (189, 2), (79, 1), (191, 6), (78, 1), (197, 1), (59, 3), (198, 15), (80, 1), (213, 14), (81, 1), (227, 11), (84, 1), (238, 12), (82, 2), (250, 8), (89, 1), (85, 1), (258, 7), (88, 1), (265, 15), (93, 2), (96, 1), (280, 8), (95, 1), (288, 24), (1349, 6), (1379, 10), (1408, 8), (1395, 13), (1416, 6)] (by rfl) (by decide +kernel)) (goodIn_sub (fun _ h => List.mem_append_left _ (List.mem_append_left _ (List.mem_append_right _ h))) (by decide +kernel))) (goodIn_sub (fun _ h => List.mem_append_left _ (List.mem_append_right _ h)) (by decide +kernel))) (goodIn_sub (fun _ h => List.mem_append_right _ h) (by decide +kernel))
set_option maxRecDepth 20000 in
theorem gL_law_L_setWindow : GoodIn wsL_law (va_wsS RL 102 yL_setWindow wsL_setWindow) := goodIn_app (goodIn_of _ (by decide +kernel)) ggL_law_L_setWindow
set_option maxRecDepth 20000 in
theorem ggL_law_X9_setWindow : GoodIn wsL_law wsX9_setWindow := goodIn_r _ [315, 102, 316, 317, 5, 318, 319, 320, 321, 322, 323, 324, 325, 326, 327, 328, 329, 330, 104, 331, 332, 333, 334, 335, 336, 337, 338, 103, 339, 340, 341, 342, 1355, 1356, 1357, 1358, 1359, 1360, 1361, 1362, 1363, 1364, 1365, 1366, 1367, 1368, 1369, 1370, 1371, 1372, 1373, 1374, 1375, 1376, 1377, 1378] (by decide +kernel) (by decide +kernel)
set_option maxRecDepth 20000 in
theorem gL_law_X9_setWindow : GoodIn wsL_law (wsV RL 107 RX9 yX9_setWindow wsX9_setWindow) := goodIn_app (goodIn_of _ (by decide +kernel)) ggL_law_X9_setWindow
theorem dL_law_172 : decode cL_law 172 = .ok (.aload_n 1, 1) := by decide +kernel
theorem dL_law_173 : decode cL_law 173 = .ok (.aload_n 0, 1) := by decide +kernel
theorem dL_law_174 : decode cL_law 174 = .ok (.iload 4, 2) := by decide +kernel
theorem dL_law_176 : decode cL_law 176 = .ok (.iconst 1, 1) := by decide +kernel
theorem dL_law_177 : decode cL_law 177 = .ok (.iadd, 1) := by decide +kernel
theorem dL_law_178 : decode cL_law 178 = .ok (.iaload, 1) := by decide +kernel
theorem dL_law_179 : decode cL_law 179 = .ok (.aload_n 0, 1) := by decide +kernel
theorem dL_law_180 : decode cL_law 180 = .ok (.iload 4, 2) := by decide +kernel
theorem dL_law_182 : decode cL_law 182 = .ok (.iconst 2, 1) := by decide +kernel
theorem dL_law_183 : decode cL_law 183 = .ok (.iadd, 1) := by decide +kernel
theorem dL_law_184 : decode cL_law 184 = .ok (.iaload, 1) := by decide +kernel
theorem dL_law_185 : decode cL_law 185 = .ok (.aload_n 3, 1) := by decide +kernel
theorem dL_law_186 : decode cL_law 186 = .ok (.invokestatic 102, 3) := by decide +kernel
theorem dL_law_189 : decode cL_law 189 = .ok (.istore 5, 2) := by decide +kernel
theorem dL_law_191 : decode cL_law 191 = .ok (.aload_n 2, 1) := by decide +kernel
theorem dL_law_192 : decode cL_law 192 = .ok (.aload_n 0, 1) := by decide +kernel
theorem dL_law_193 : decode cL_law 193 = .ok (.iload 4, 2) := by decide +kernel
theorem dL_law_195 : decode cL_law 195 = .ok (.iconst 1, 1) := by decide +kernel
theorem dL_law_196 : decode cL_law 196 = .ok (.iadd, 1) := by decide +kernel
theorem dL_law_197 : decode cL_law 197 = .ok (.iaload, 1) := by decide +kernel
theorem dL_law_198 : decode cL_law 198 = .ok (.aload_n 0, 1) := by decide +kernel
theorem dL_law_199 : decode cL_law 199 = .ok (.iload 4, 2) := by decide +kernel
theorem dL_law_201 : decode cL_law 201 = .ok (.iconst 2, 1) := by decide +kernel
theorem dL_law_202 : decode cL_law 202 = .ok (.iadd, 1) := by decide +kernel
theorem dL_law_203 : decode cL_law 203 = .ok (.iaload, 1) := by decide +kernel
theorem dL_law_204 : decode cL_law 204 = .ok (.invokevirtual 107, 3) := by decide +kernel
theorem dL_law_207 : decode cL_law 207 = .ok (.istore 6, 2) := by decide +kernel
theorem dL_law_209 : decode cL_law 209 = .ok (.aload_n 2, 1) := by decide +kernel
theorem dL_law_210 : decode cL_law 210 = .ok (.invokevirtual 108, 3) := by decide +kernel
theorem dL_law_213 : decode cL_law 213 = .ok (.iload 5, 2) := by decide +kernel
theorem dL_law_215 : decode cL_law 215 = .ok (.if_icmp .eq 5, 3) := by decide +kernel
theorem dL_law_220 : decode cL_law 220 = .ok (.iload 5, 2) := by decide +kernel
theorem dL_law_222 : decode cL_law 222 = .ok (.ifCond .ne 15, 3) := by decide +kernel
theorem dL_law_225 : decode cL_law 225 = .ok (.aload_n 3, 1) := by decide +kernel
theorem dL_law_226 : decode cL_law 226 = .ok (.iconst 0, 1) := by decide +kernel
theorem dL_law_227 : decode cL_law 227 = .ok (.laload, 1) := by decide +kernel
theorem dL_law_228 : decode cL_law 228 = .ok (.iload 6, 2) := by decide +kernel
theorem dL_law_230 : decode cL_law 230 = .ok (.i2l, 1) := by decide +kernel
theorem dL_law_231 : decode cL_law 231 = .ok (.lcmp, 1) := by decide +kernel
theorem dL_law_232 : decode cL_law 232 = .ok (.ifCond .eq 5, 3) := by decide +kernel
theorem dL_law_237 : decode cL_law 237 = .ok (.goto 1695, 3) := by decide +kernel
theorem C_setWindow (C : Ok X cL_law wsL_law RL (some .boolean) 12 7) (hX : va_X b N xs (xS X) (xS X).heap) (hb : b < (xS X).heap.size ∧ b < gZ (xG X)) (hN : N ≤ 3072) (hi : 0 ≤ i ∧ i + 6 ≤ N) (hO : hasS S o (.inl (1, 1))) (hM : MoS S r) {f9 : Nat} (hf9 : f9 ≤ 11)
    (hL : Ct (xG X) (xL X) yL_setWindow wsL_setWindow 9 1 6 [.ref a, .int (I32 (sc xs (i + 1))), .int (I32 (sc xs (i + 2))), .ref o] S n mu la (Lp S c mu1 la1)) (hR : ∀ n1, Ct (xG X) (xL X) yX9_setWindow wsX9_setWindow f9 0 0 [.ref r, .int (I32 (sc xs (i + 1))), .int (I32 (sc xs (i + 2)))] S n1 mu1 la1 (Dt (some (.int (I32 v))) S n1 mu2 la2)) (hc : 0 ≤ c ∧ c ≤ 3) (h7 : mu2 r 7 = c) (ho : c = 0 → la2 o 0 = (I32 v).toInt64) (hk : k + 1 ≤ (xR X).cells ∧ sl + 6 ≤ (xR X).slots)
    (kk : ∀ n1, V X 1932 [some (.ref b), some (.ref a), some (.ref r), some (.ref o), some (.int (I32 i)), none, none] [] S n1 mu2 la2 (k + 1) (sl + 6)) : V X 172 [some (.ref b), some (.ref a), some (.ref r), some (.ref o), some (.int (I32 i)), none, none] [] S n mu la k sl := by
  refine V_aload_n C dL_law_172 rfl ?_
  refine V_aload_n C dL_law_173 rfl ?_
  refine V_iload C dL_law_174 rfl ?_
  refine V_iconst C dL_law_176 ?_
  refine V_iadd C dL_law_177 ?_
  refine V_sald C hX hb hN (by omega) dL_law_178 ?_
  refine V_aload_n C dL_law_179 rfl ?_
  refine V_iload C dL_law_180 rfl ?_
  refine V_iconst C dL_law_182 ?_
  refine V_iadd C dL_law_183 ?_
  refine V_sald C hX hb hN (by omega) dL_law_184 ?_
  refine V_aload_n C dL_law_185 rfl ?_
  refine V_callSH (nA := 4) C dL_law_186 hL gL_law_L_setWindow rfl (by decide +kernel) rfl (by omega) (by decide) (Nat.le_of_ble_eq_true rfl) hk rfl ?_
  rintro _ S9 n1 mu9 la9 ⟨q0, q1, q2, q3⟩
  rw [q0, q1, q2, q3]
  refine V_istore C dL_law_189 rfl (by decide) ?_
  refine V_aload_n C dL_law_191 rfl ?_
  refine V_aload_n C dL_law_192 rfl ?_
  refine V_iload C dL_law_193 rfl ?_
  refine V_iconst C dL_law_195 ?_
  refine V_iadd C dL_law_196 ?_
  refine V_sald C hX hb hN (by omega) dL_law_197 ?_
  refine V_aload_n C dL_law_198 rfl ?_
  refine V_iload C dL_law_199 rfl ?_
  refine V_iconst C dL_law_201 ?_
  refine V_iadd C dL_law_202 ?_
  refine V_sald C hX hb hN (by omega) dL_law_203 ?_
  refine V_callVD (nA := 2) C dL_law_204 (hR n1) gL_law_X9_setWindow rfl hM.1 rfl (by decide +kernel) rfl (by omega) (by decide) (Nat.le_of_ble_eq_true rfl) hk rfl ?_
  refine V_istore C dL_law_207 rfl (by decide) ?_
  refine V_aload_n C dL_law_209 rfl ?_
  refine V_callVD (nA := 0) C dL_law_210 (m_thrown C.gp hM) gL_law_X9_thrown rfl hM.1 rfl (by decide +kernel) rfl (by omega) (by decide) (Nat.le_of_ble_eq_true rfl) hk rfl ?_
  refine V_iload C dL_law_213 rfl ?_
  refine V_icmp_eq C 220 dL_law_215 (by decide) (by omega) (by omega) (fun _ => ?_) (fun z => absurd h7 z)
  refine V_iload C dL_law_220 rfl ?_
  have fin : V X 237 [some (.ref b), some (.ref a), some (.ref r), some (.ref o), some (.int (I32 i)), some (.int (I32 c)), some (.int (I32 v))] [] S n1 mu2 la2 (k + 1) (sl + 6) := by
    refine V_goto C 1932 dL_law_237 (by decide) ?_
    exact V_fgt (r' := [some (.ref b), some (.ref a), some (.ref r), some (.ref o), some (.int (I32 i)), none, none]) (fun q9 h9 => by simp only [rOf, List.mem_cons, List.not_mem_nil, or_false] at h9 ⊢; rcases h9 with h | h | h | h | h <;> simp [h]) (kk n1)
  refine V_if_ne C 237 dL_law_222 (by decide) (by omega) (fun _ => fin) (fun z => ?_)
  refine V_aload_n C dL_law_225 rfl ?_
  refine V_iconst C dL_law_226 ?_
  refine V_lald C dL_law_227 hO (by decide) (by decide) ?_
  refine V_iload C dL_law_228 rfl ?_
  refine V_i2l C dL_law_230 ?_
  refine V_lcmp C dL_law_231 ?_
  rw [show la2 o (0 : Int).toNat = (I32 v).toInt64 from ho z, lg_cmp_xx]
  exact V_if_eq C 237 dL_law_232 (by decide) (by omega) (fun _ => fin) (fun z9 => absurd rfl z9)
set_option maxRecDepth 20000 in
theorem ggL_law_L_addPane : GoodIn wsL_law wsL_addPane := goodIn_ca (goodIn_ca (goodIn_ca (goodIn_s _ [(349, 1), (122, 1), (350, 4), (2, 1), (354, 1), (20, 1), (16, 1), (355, 7), (130, 15), (19, 1), (145, 11), (67, 1), (156, 3), (15, 1), (159, 1), (38, 2), (160, 1), (41, 1), (43, 1), (45, 1), (161, 10), (31, 1), (171, 1), (50, 8), (172, 4), (44, 1), (176, 6), (362, 8), (206, 2), (182, 4), (28, 1), (186, 3), (27, 1), (189, 2), (79, 1), (191, 6), (78, 1), (197, 1), (59, 3), (198, 8), (208, 5), (80, 1), (213, 14), (81, 1), (227, 11), (84, 1), (238, 12), (82, 2), (250, 8), (89, 1), (85, 1), (258, 7), (88, 1), (265, 15), (93, 2), (96, 1), (280, 8), (95, 1), (288, 24), (1349, 6), (1379, 10), (1408, 8), (1395, 13), (1416, 6)] (by rfl) (by decide +kernel)) (goodIn_sub (fun _ h => List.mem_append_left _ (List.mem_append_left _ (List.mem_append_right _ h))) (by decide +kernel))) (goodIn_sub (fun _ h => List.mem_append_left _ (List.mem_append_right _ h)) (by decide +kernel))) (goodIn_sub (fun _ h => List.mem_append_right _ h) (by decide +kernel))
set_option maxRecDepth 20000 in
theorem gL_law_L_addPane : GoodIn wsL_law (va_wsS RL 111 yL_addPane wsL_addPane) := goodIn_app (goodIn_of _ (by decide +kernel)) ggL_law_L_addPane
set_option maxRecDepth 20000 in
theorem ggL_law_X9_addPane : GoodIn wsL_law wsX9_addPane := goodIn_s _ [(373, 1), (327, 3), (5, 1), (330, 1), (104, 1), (102, 1), (331, 3), (374, 5), (319, 3), (379, 4), (322, 5), (334, 5), (103, 1), (339, 4), (1355, 24)] (by rfl) (by decide +kernel)
set_option maxRecDepth 20000 in
theorem gL_law_X9_addPane : GoodIn wsL_law (wsV RL 113 RX9 yX9_addPane wsX9_addPane) := goodIn_app (goodIn_of _ (by decide +kernel)) ggL_law_X9_addPane
theorem dL_law_240 : decode cL_law 240 = .ok (.aload_n 1, 1) := by decide +kernel
theorem dL_law_241 : decode cL_law 241 = .ok (.aload_n 0, 1) := by decide +kernel
theorem dL_law_242 : decode cL_law 242 = .ok (.iload 4, 2) := by decide +kernel
theorem dL_law_244 : decode cL_law 244 = .ok (.iconst 1, 1) := by decide +kernel
theorem dL_law_245 : decode cL_law 245 = .ok (.iadd, 1) := by decide +kernel
theorem dL_law_246 : decode cL_law 246 = .ok (.iaload, 1) := by decide +kernel
theorem dL_law_247 : decode cL_law 247 = .ok (.aload_n 0, 1) := by decide +kernel
theorem dL_law_248 : decode cL_law 248 = .ok (.iload 4, 2) := by decide +kernel
theorem dL_law_250 : decode cL_law 250 = .ok (.iconst 2, 1) := by decide +kernel
theorem dL_law_251 : decode cL_law 251 = .ok (.iadd, 1) := by decide +kernel
theorem dL_law_252 : decode cL_law 252 = .ok (.iaload, 1) := by decide +kernel
theorem dL_law_253 : decode cL_law 253 = .ok (.aload_n 3, 1) := by decide +kernel
theorem dL_law_254 : decode cL_law 254 = .ok (.invokestatic 111, 3) := by decide +kernel
theorem dL_law_257 : decode cL_law 257 = .ok (.istore 5, 2) := by decide +kernel
theorem dL_law_259 : decode cL_law 259 = .ok (.aload_n 2, 1) := by decide +kernel
theorem dL_law_260 : decode cL_law 260 = .ok (.aload_n 0, 1) := by decide +kernel
theorem dL_law_261 : decode cL_law 261 = .ok (.iload 4, 2) := by decide +kernel
theorem dL_law_263 : decode cL_law 263 = .ok (.iconst 1, 1) := by decide +kernel
theorem dL_law_264 : decode cL_law 264 = .ok (.iadd, 1) := by decide +kernel
theorem dL_law_265 : decode cL_law 265 = .ok (.iaload, 1) := by decide +kernel
theorem dL_law_266 : decode cL_law 266 = .ok (.aload_n 0, 1) := by decide +kernel
theorem dL_law_267 : decode cL_law 267 = .ok (.iload 4, 2) := by decide +kernel
theorem dL_law_269 : decode cL_law 269 = .ok (.iconst 2, 1) := by decide +kernel
theorem dL_law_270 : decode cL_law 270 = .ok (.iadd, 1) := by decide +kernel
theorem dL_law_271 : decode cL_law 271 = .ok (.iaload, 1) := by decide +kernel
theorem dL_law_272 : decode cL_law 272 = .ok (.invokevirtual 113, 3) := by decide +kernel
theorem dL_law_275 : decode cL_law 275 = .ok (.istore 6, 2) := by decide +kernel
theorem dL_law_277 : decode cL_law 277 = .ok (.aload_n 2, 1) := by decide +kernel
theorem dL_law_278 : decode cL_law 278 = .ok (.invokevirtual 108, 3) := by decide +kernel
theorem dL_law_281 : decode cL_law 281 = .ok (.iload 5, 2) := by decide +kernel
theorem dL_law_283 : decode cL_law 283 = .ok (.if_icmp .eq 5, 3) := by decide +kernel
theorem dL_law_288 : decode cL_law 288 = .ok (.iload 5, 2) := by decide +kernel
theorem dL_law_290 : decode cL_law 290 = .ok (.ifCond .ne 15, 3) := by decide +kernel
theorem dL_law_293 : decode cL_law 293 = .ok (.aload_n 3, 1) := by decide +kernel
theorem dL_law_294 : decode cL_law 294 = .ok (.iconst 0, 1) := by decide +kernel
theorem dL_law_295 : decode cL_law 295 = .ok (.laload, 1) := by decide +kernel
theorem dL_law_296 : decode cL_law 296 = .ok (.iload 6, 2) := by decide +kernel
theorem dL_law_298 : decode cL_law 298 = .ok (.i2l, 1) := by decide +kernel
theorem dL_law_299 : decode cL_law 299 = .ok (.lcmp, 1) := by decide +kernel
theorem dL_law_300 : decode cL_law 300 = .ok (.ifCond .eq 5, 3) := by decide +kernel
theorem dL_law_305 : decode cL_law 305 = .ok (.goto 1627, 3) := by decide +kernel
theorem C_addPane (C : Ok X cL_law wsL_law RL (some .boolean) 12 7) (hX : va_X b N xs (xS X) (xS X).heap) (hb : b < (xS X).heap.size ∧ b < gZ (xG X)) (hN : N ≤ 3072) (hi : 0 ≤ i ∧ i + 6 ≤ N) (hO : hasS S o (.inl (1, 1))) (hM : MoS S r) {f9 : Nat} (hf9 : f9 ≤ 11)
    (hL : Ct (xG X) (xL X) yL_addPane wsL_addPane 9 1 6 [.ref a, .int (I32 (sc xs (i + 1))), .int (I32 (sc xs (i + 2))), .ref o] S n mu la (Lp S c mu1 la1)) (hR : ∀ n1, Ct (xG X) (xL X) yX9_addPane wsX9_addPane f9 0 0 [.ref r, .int (I32 (sc xs (i + 1))), .int (I32 (sc xs (i + 2)))] S n1 mu1 la1 (Dt (some (.int (I32 v))) S n1 mu2 la2)) (hc : 0 ≤ c ∧ c ≤ 3) (h7 : mu2 r 7 = c) (ho : c = 0 → la2 o 0 = (I32 v).toInt64) (hk : k + 1 ≤ (xR X).cells ∧ sl + 6 ≤ (xR X).slots)
    (kk : ∀ n1, V X 1932 [some (.ref b), some (.ref a), some (.ref r), some (.ref o), some (.int (I32 i)), none, none] [] S n1 mu2 la2 (k + 1) (sl + 6)) : V X 240 [some (.ref b), some (.ref a), some (.ref r), some (.ref o), some (.int (I32 i)), none, none] [] S n mu la k sl := by
  refine V_aload_n C dL_law_240 rfl ?_
  refine V_aload_n C dL_law_241 rfl ?_
  refine V_iload C dL_law_242 rfl ?_
  refine V_iconst C dL_law_244 ?_
  refine V_iadd C dL_law_245 ?_
  refine V_sald C hX hb hN (by omega) dL_law_246 ?_
  refine V_aload_n C dL_law_247 rfl ?_
  refine V_iload C dL_law_248 rfl ?_
  refine V_iconst C dL_law_250 ?_
  refine V_iadd C dL_law_251 ?_
  refine V_sald C hX hb hN (by omega) dL_law_252 ?_
  refine V_aload_n C dL_law_253 rfl ?_
  refine V_callSH (nA := 4) C dL_law_254 hL gL_law_L_addPane rfl (by decide +kernel) rfl (by omega) (by decide) (Nat.le_of_ble_eq_true rfl) hk rfl ?_
  rintro _ S9 n1 mu9 la9 ⟨q0, q1, q2, q3⟩
  rw [q0, q1, q2, q3]
  refine V_istore C dL_law_257 rfl (by decide) ?_
  refine V_aload_n C dL_law_259 rfl ?_
  refine V_aload_n C dL_law_260 rfl ?_
  refine V_iload C dL_law_261 rfl ?_
  refine V_iconst C dL_law_263 ?_
  refine V_iadd C dL_law_264 ?_
  refine V_sald C hX hb hN (by omega) dL_law_265 ?_
  refine V_aload_n C dL_law_266 rfl ?_
  refine V_iload C dL_law_267 rfl ?_
  refine V_iconst C dL_law_269 ?_
  refine V_iadd C dL_law_270 ?_
  refine V_sald C hX hb hN (by omega) dL_law_271 ?_
  refine V_callVD (nA := 2) C dL_law_272 (hR n1) gL_law_X9_addPane rfl hM.1 rfl (by decide +kernel) rfl (by omega) (by decide) (Nat.le_of_ble_eq_true rfl) hk rfl ?_
  refine V_istore C dL_law_275 rfl (by decide) ?_
  refine V_aload_n C dL_law_277 rfl ?_
  refine V_callVD (nA := 0) C dL_law_278 (m_thrown C.gp hM) gL_law_X9_thrown rfl hM.1 rfl (by decide +kernel) rfl (by omega) (by decide) (Nat.le_of_ble_eq_true rfl) hk rfl ?_
  refine V_iload C dL_law_281 rfl ?_
  refine V_icmp_eq C 288 dL_law_283 (by decide) (by omega) (by omega) (fun _ => ?_) (fun z => absurd h7 z)
  refine V_iload C dL_law_288 rfl ?_
  have fin : V X 305 [some (.ref b), some (.ref a), some (.ref r), some (.ref o), some (.int (I32 i)), some (.int (I32 c)), some (.int (I32 v))] [] S n1 mu2 la2 (k + 1) (sl + 6) := by
    refine V_goto C 1932 dL_law_305 (by decide) ?_
    exact V_fgt (r' := [some (.ref b), some (.ref a), some (.ref r), some (.ref o), some (.int (I32 i)), none, none]) (fun q9 h9 => by simp only [rOf, List.mem_cons, List.not_mem_nil, or_false] at h9 ⊢; rcases h9 with h | h | h | h | h <;> simp [h]) (kk n1)
  refine V_if_ne C 305 dL_law_290 (by decide) (by omega) (fun _ => fin) (fun z => ?_)
  refine V_aload_n C dL_law_293 rfl ?_
  refine V_iconst C dL_law_294 ?_
  refine V_lald C dL_law_295 hO (by decide) (by decide) ?_
  refine V_iload C dL_law_296 rfl ?_
  refine V_i2l C dL_law_298 ?_
  refine V_lcmp C dL_law_299 ?_
  rw [show la2 o (0 : Int).toNat = (I32 v).toInt64 from ho z, lg_cmp_xx]
  exact V_if_eq C 305 dL_law_300 (by decide) (by omega) (fun _ => fin) (fun z9 => absurd rfl z9)
set_option maxRecDepth 20000 in
theorem ggL_law_L_setLeast : GoodIn wsL_law wsL_setLeast := goodIn_ca (goodIn_ca (goodIn_ca (goodIn_s _ [(385, 2), (122, 1), (387, 3), (2, 1), (390, 1), (20, 1), (16, 1), (391, 4), (359, 3), (130, 15), (19, 1), (145, 11), (67, 1), (156, 3), (15, 1), (159, 1), (38, 2), (160, 1), (41, 1), (43, 1), (45, 1), (161, 10), (31, 1), (171, 1), (50, 8), (172, 4), (44, 1), (176, 6), (395, 5), (367, 3), (206, 2), (182, 4), (28, 1), (186, 3), (27, 1), (189, 2), (79, 1), (191, 6), (78, 1), (197, 1), (59, 3), (198, 8), (208, 5), (80, 1), (213, 14), (81, 1), (227, 11), (84, 1), (238, 12), (82, 2), (250, 8), (89, 1), (85, 1), (258, 7), (88, 1), (265, 15), (93, 2), (96, 1), (280, 8), (95, 1), (288, 24), (1349, 6), (1379, 10), (1408, 8), (1395, 13), (1416, 6)] (by rfl) (by decide +kernel)) (goodIn_sub (fun _ h => List.mem_append_left _ (List.mem_append_left _ (List.mem_append_right _ h))) (by decide +kernel))) (goodIn_sub (fun _ h => List.mem_append_left _ (List.mem_append_right _ h)) (by decide +kernel))) (goodIn_sub (fun _ h => List.mem_append_right _ h) (by decide +kernel))
set_option maxRecDepth 20000 in
theorem gL_law_L_setLeast : GoodIn wsL_law (va_wsS RL 114 yL_setLeast wsL_setLeast) := goodIn_app (goodIn_of _ (by decide +kernel)) ggL_law_L_setLeast
set_option maxRecDepth 20000 in
theorem ggL_law_X9_setLeast : GoodIn wsL_law wsX9_setLeast := goodIn_r _ [403, 102, 404, 405, 406, 5, 407, 319, 320, 321, 322, 323, 324, 325, 326, 327, 328, 329, 330, 104, 331, 332, 333, 334, 335, 336, 337, 338, 103, 339, 340, 341, 342, 1355, 1356, 1357, 1358, 1359, 1360, 1361, 1362, 1363, 1364, 1365, 1366, 1367, 1368, 1369, 1370, 1371, 1372, 1373, 1374, 1375, 1376, 1377, 1378] (by decide +kernel) (by decide +kernel)
set_option maxRecDepth 20000 in
theorem gL_law_X9_setLeast : GoodIn wsL_law (wsV RL 117 RX9 yX9_setLeast wsX9_setLeast) := goodIn_app (goodIn_of _ (by decide +kernel)) ggL_law_X9_setLeast
theorem dL_law_308 : decode cL_law 308 = .ok (.aload_n 1, 1) := by decide +kernel
theorem dL_law_309 : decode cL_law 309 = .ok (.aload_n 0, 1) := by decide +kernel
theorem dL_law_310 : decode cL_law 310 = .ok (.iload 4, 2) := by decide +kernel
theorem dL_law_312 : decode cL_law 312 = .ok (.iconst 1, 1) := by decide +kernel
theorem dL_law_313 : decode cL_law 313 = .ok (.iadd, 1) := by decide +kernel
theorem dL_law_314 : decode cL_law 314 = .ok (.iaload, 1) := by decide +kernel
theorem dL_law_315 : decode cL_law 315 = .ok (.aload_n 0, 1) := by decide +kernel
theorem dL_law_316 : decode cL_law 316 = .ok (.iload 4, 2) := by decide +kernel
theorem dL_law_318 : decode cL_law 318 = .ok (.iconst 2, 1) := by decide +kernel
theorem dL_law_319 : decode cL_law 319 = .ok (.iadd, 1) := by decide +kernel
theorem dL_law_320 : decode cL_law 320 = .ok (.iaload, 1) := by decide +kernel
theorem dL_law_321 : decode cL_law 321 = .ok (.aload_n 0, 1) := by decide +kernel
theorem dL_law_322 : decode cL_law 322 = .ok (.iload 4, 2) := by decide +kernel
theorem dL_law_324 : decode cL_law 324 = .ok (.iconst 3, 1) := by decide +kernel
theorem dL_law_325 : decode cL_law 325 = .ok (.iadd, 1) := by decide +kernel
theorem dL_law_326 : decode cL_law 326 = .ok (.iaload, 1) := by decide +kernel
theorem dL_law_327 : decode cL_law 327 = .ok (.aload_n 3, 1) := by decide +kernel
theorem dL_law_328 : decode cL_law 328 = .ok (.invokestatic 114, 3) := by decide +kernel
theorem dL_law_331 : decode cL_law 331 = .ok (.istore 5, 2) := by decide +kernel
theorem dL_law_333 : decode cL_law 333 = .ok (.aload_n 2, 1) := by decide +kernel
theorem dL_law_334 : decode cL_law 334 = .ok (.aload_n 0, 1) := by decide +kernel
theorem dL_law_335 : decode cL_law 335 = .ok (.iload 4, 2) := by decide +kernel
theorem dL_law_337 : decode cL_law 337 = .ok (.iconst 1, 1) := by decide +kernel
theorem dL_law_338 : decode cL_law 338 = .ok (.iadd, 1) := by decide +kernel
theorem dL_law_339 : decode cL_law 339 = .ok (.iaload, 1) := by decide +kernel
theorem dL_law_340 : decode cL_law 340 = .ok (.aload_n 0, 1) := by decide +kernel
theorem dL_law_341 : decode cL_law 341 = .ok (.iload 4, 2) := by decide +kernel
theorem dL_law_343 : decode cL_law 343 = .ok (.iconst 2, 1) := by decide +kernel
theorem dL_law_344 : decode cL_law 344 = .ok (.iadd, 1) := by decide +kernel
theorem dL_law_345 : decode cL_law 345 = .ok (.iaload, 1) := by decide +kernel
theorem dL_law_346 : decode cL_law 346 = .ok (.aload_n 0, 1) := by decide +kernel
theorem dL_law_347 : decode cL_law 347 = .ok (.iload 4, 2) := by decide +kernel
theorem dL_law_349 : decode cL_law 349 = .ok (.iconst 3, 1) := by decide +kernel
theorem dL_law_350 : decode cL_law 350 = .ok (.iadd, 1) := by decide +kernel
theorem dL_law_351 : decode cL_law 351 = .ok (.iaload, 1) := by decide +kernel
theorem dL_law_352 : decode cL_law 352 = .ok (.invokevirtual 117, 3) := by decide +kernel
theorem dL_law_355 : decode cL_law 355 = .ok (.istore 6, 2) := by decide +kernel
theorem dL_law_357 : decode cL_law 357 = .ok (.aload_n 2, 1) := by decide +kernel
theorem dL_law_358 : decode cL_law 358 = .ok (.invokevirtual 108, 3) := by decide +kernel
theorem dL_law_361 : decode cL_law 361 = .ok (.iload 5, 2) := by decide +kernel
theorem dL_law_363 : decode cL_law 363 = .ok (.if_icmp .eq 5, 3) := by decide +kernel
theorem dL_law_368 : decode cL_law 368 = .ok (.iload 5, 2) := by decide +kernel
theorem dL_law_370 : decode cL_law 370 = .ok (.ifCond .ne 15, 3) := by decide +kernel
theorem dL_law_373 : decode cL_law 373 = .ok (.aload_n 3, 1) := by decide +kernel
theorem dL_law_374 : decode cL_law 374 = .ok (.iconst 0, 1) := by decide +kernel
theorem dL_law_375 : decode cL_law 375 = .ok (.laload, 1) := by decide +kernel
theorem dL_law_376 : decode cL_law 376 = .ok (.iload 6, 2) := by decide +kernel
theorem dL_law_378 : decode cL_law 378 = .ok (.i2l, 1) := by decide +kernel
theorem dL_law_379 : decode cL_law 379 = .ok (.lcmp, 1) := by decide +kernel
theorem dL_law_380 : decode cL_law 380 = .ok (.ifCond .eq 5, 3) := by decide +kernel
theorem dL_law_385 : decode cL_law 385 = .ok (.goto 1547, 3) := by decide +kernel
theorem C_setLeast (C : Ok X cL_law wsL_law RL (some .boolean) 12 7) (hX : va_X b N xs (xS X) (xS X).heap) (hb : b < (xS X).heap.size ∧ b < gZ (xG X)) (hN : N ≤ 3072) (hi : 0 ≤ i ∧ i + 6 ≤ N) (hO : hasS S o (.inl (1, 1))) (hM : MoS S r) {f9 : Nat} (hf9 : f9 ≤ 11)
    (hL : Ct (xG X) (xL X) yL_setLeast wsL_setLeast 9 1 6 [.ref a, .int (I32 (sc xs (i + 1))), .int (I32 (sc xs (i + 2))), .int (I32 (sc xs (i + 3))), .ref o] S n mu la (Lp S c mu1 la1)) (hR : ∀ n1, Ct (xG X) (xL X) yX9_setLeast wsX9_setLeast f9 0 0 [.ref r, .int (I32 (sc xs (i + 1))), .int (I32 (sc xs (i + 2))), .int (I32 (sc xs (i + 3)))] S n1 mu1 la1 (Dt (some (.int (I32 v))) S n1 mu2 la2)) (hc : 0 ≤ c ∧ c ≤ 3) (h7 : mu2 r 7 = c) (ho : c = 0 → la2 o 0 = (I32 v).toInt64) (hk : k + 1 ≤ (xR X).cells ∧ sl + 6 ≤ (xR X).slots)
    (kk : ∀ n1, V X 1932 [some (.ref b), some (.ref a), some (.ref r), some (.ref o), some (.int (I32 i)), none, none] [] S n1 mu2 la2 (k + 1) (sl + 6)) : V X 308 [some (.ref b), some (.ref a), some (.ref r), some (.ref o), some (.int (I32 i)), none, none] [] S n mu la k sl := by
  refine V_aload_n C dL_law_308 rfl ?_
  refine V_aload_n C dL_law_309 rfl ?_
  refine V_iload C dL_law_310 rfl ?_
  refine V_iconst C dL_law_312 ?_
  refine V_iadd C dL_law_313 ?_
  refine V_sald C hX hb hN (by omega) dL_law_314 ?_
  refine V_aload_n C dL_law_315 rfl ?_
  refine V_iload C dL_law_316 rfl ?_
  refine V_iconst C dL_law_318 ?_
  refine V_iadd C dL_law_319 ?_
  refine V_sald C hX hb hN (by omega) dL_law_320 ?_
  refine V_aload_n C dL_law_321 rfl ?_
  refine V_iload C dL_law_322 rfl ?_
  refine V_iconst C dL_law_324 ?_
  refine V_iadd C dL_law_325 ?_
  refine V_sald C hX hb hN (by omega) dL_law_326 ?_
  refine V_aload_n C dL_law_327 rfl ?_
  refine V_callSH (nA := 5) C dL_law_328 hL gL_law_L_setLeast rfl (by decide +kernel) rfl (by omega) (by decide) (Nat.le_of_ble_eq_true rfl) hk rfl ?_
  rintro _ S9 n1 mu9 la9 ⟨q0, q1, q2, q3⟩
  rw [q0, q1, q2, q3]
  refine V_istore C dL_law_331 rfl (by decide) ?_
  refine V_aload_n C dL_law_333 rfl ?_
  refine V_aload_n C dL_law_334 rfl ?_
  refine V_iload C dL_law_335 rfl ?_
  refine V_iconst C dL_law_337 ?_
  refine V_iadd C dL_law_338 ?_
  refine V_sald C hX hb hN (by omega) dL_law_339 ?_
  refine V_aload_n C dL_law_340 rfl ?_
  refine V_iload C dL_law_341 rfl ?_
  refine V_iconst C dL_law_343 ?_
  refine V_iadd C dL_law_344 ?_
  refine V_sald C hX hb hN (by omega) dL_law_345 ?_
  refine V_aload_n C dL_law_346 rfl ?_
  refine V_iload C dL_law_347 rfl ?_
  refine V_iconst C dL_law_349 ?_
  refine V_iadd C dL_law_350 ?_
  refine V_sald C hX hb hN (by omega) dL_law_351 ?_
  refine V_callVD (nA := 3) C dL_law_352 (hR n1) gL_law_X9_setLeast rfl hM.1 rfl (by decide +kernel) rfl (by omega) (by decide) (Nat.le_of_ble_eq_true rfl) hk rfl ?_
  refine V_istore C dL_law_355 rfl (by decide) ?_
  refine V_aload_n C dL_law_357 rfl ?_
  refine V_callVD (nA := 0) C dL_law_358 (m_thrown C.gp hM) gL_law_X9_thrown rfl hM.1 rfl (by decide +kernel) rfl (by omega) (by decide) (Nat.le_of_ble_eq_true rfl) hk rfl ?_
  refine V_iload C dL_law_361 rfl ?_
  refine V_icmp_eq C 368 dL_law_363 (by decide) (by omega) (by omega) (fun _ => ?_) (fun z => absurd h7 z)
  refine V_iload C dL_law_368 rfl ?_
  have fin : V X 385 [some (.ref b), some (.ref a), some (.ref r), some (.ref o), some (.int (I32 i)), some (.int (I32 c)), some (.int (I32 v))] [] S n1 mu2 la2 (k + 1) (sl + 6) := by
    refine V_goto C 1932 dL_law_385 (by decide) ?_
    exact V_fgt (r' := [some (.ref b), some (.ref a), some (.ref r), some (.ref o), some (.int (I32 i)), none, none]) (fun q9 h9 => by simp only [rOf, List.mem_cons, List.not_mem_nil, or_false] at h9 ⊢; rcases h9 with h | h | h | h | h <;> simp [h]) (kk n1)
  refine V_if_ne C 385 dL_law_370 (by decide) (by omega) (fun _ => fin) (fun z => ?_)
  refine V_aload_n C dL_law_373 rfl ?_
  refine V_iconst C dL_law_374 ?_
  refine V_lald C dL_law_375 hO (by decide) (by decide) ?_
  refine V_iload C dL_law_376 rfl ?_
  refine V_i2l C dL_law_378 ?_
  refine V_lcmp C dL_law_379 ?_
  rw [show la2 o (0 : Int).toNat = (I32 v).toInt64 from ho z, lg_cmp_xx]
  exact V_if_eq C 385 dL_law_380 (by decide) (by omega) (fun _ => fin) (fun z9 => absurd rfl z9)
set_option maxRecDepth 20000 in
theorem ggL_law_L_dock : GoodIn wsL_law wsL_dock := goodIn_ca (goodIn_ca (goodIn_ca (goodIn_s _ [(410, 1), (386, 1), (122, 1), (350, 1), (411, 3), (2, 1), (414, 1), (20, 1), (16, 1), (415, 4), (391, 4), (419, 3), (31, 1), (422, 1), (50, 1), (180, 2), (133, 12), (19, 1), (145, 11), (67, 1), (156, 3), (15, 1), (159, 1), (38, 2), (160, 1), (41, 1), (43, 1), (45, 1), (161, 11), (51, 7), (172, 4), (44, 1), (176, 4), (423, 13), (206, 2), (436, 4), (221, 2), (440, 33), (231, 3), (473, 10), (182, 4), (28, 1), (186, 3), (27, 1), (189, 2), (79, 1), (191, 6), (78, 1), (197, 1), (59, 3), (198, 8), (208, 5), (80, 1), (213, 8), (223, 4), (81, 1), (227, 4), (234, 4), (84, 1), (238, 12), (82, 2), (250, 8), (89, 1), (85, 1), (258, 7), (88, 1), (265, 15), (93, 2), (96, 1), (280, 8), (95, 1), (288, 24), (483, 2), (1349, 6), (1379, 7), (1408, 8), (1386, 3), (1395, 13), (1416, 6)] (by rfl) (by decide +kernel)) (goodIn_sub (fun _ h => List.mem_append_left _ (List.mem_append_left _ (List.mem_append_right _ h))) (by decide +kernel))) (goodIn_sub (fun _ h => List.mem_append_left _ (List.mem_append_right _ h)) (by decide +kernel))) (goodIn_sub (fun _ h => List.mem_append_right _ h) (by decide +kernel))
set_option maxRecDepth 20000 in
theorem gL_law_L_dock : GoodIn wsL_law (va_wsS RL 118 yL_dock wsL_dock) := goodIn_app (goodIn_of _ (by decide +kernel)) ggL_law_L_dock
set_option maxRecDepth 20000 in
theorem ggL_law_X9_dock : GoodIn wsL_law wsX9_dock := goodIn_s _ [(488, 1), (327, 3), (5, 1), (330, 1), (104, 1), (102, 1), (331, 3), (489, 8), (404, 4), (319, 3), (497, 16), (378, 1), (513, 51), (379, 4), (322, 5), (334, 5), (103, 1), (339, 4), (1355, 24)] (by rfl) (by decide +kernel)
set_option maxRecDepth 20000 in
theorem gL_law_X9_dock : GoodIn wsL_law (wsV RL 120 RX9 yX9_dock wsX9_dock) := goodIn_app (goodIn_of _ (by decide +kernel)) ggL_law_X9_dock
theorem dL_law_388 : decode cL_law 388 = .ok (.aload_n 1, 1) := by decide +kernel
theorem dL_law_389 : decode cL_law 389 = .ok (.aload_n 0, 1) := by decide +kernel
theorem dL_law_390 : decode cL_law 390 = .ok (.iload 4, 2) := by decide +kernel
theorem dL_law_392 : decode cL_law 392 = .ok (.iconst 1, 1) := by decide +kernel
theorem dL_law_393 : decode cL_law 393 = .ok (.iadd, 1) := by decide +kernel
theorem dL_law_394 : decode cL_law 394 = .ok (.iaload, 1) := by decide +kernel
theorem dL_law_395 : decode cL_law 395 = .ok (.aload_n 0, 1) := by decide +kernel
theorem dL_law_396 : decode cL_law 396 = .ok (.iload 4, 2) := by decide +kernel
theorem dL_law_398 : decode cL_law 398 = .ok (.iconst 2, 1) := by decide +kernel
theorem dL_law_399 : decode cL_law 399 = .ok (.iadd, 1) := by decide +kernel
theorem dL_law_400 : decode cL_law 400 = .ok (.iaload, 1) := by decide +kernel
theorem dL_law_401 : decode cL_law 401 = .ok (.aload_n 0, 1) := by decide +kernel
theorem dL_law_402 : decode cL_law 402 = .ok (.iload 4, 2) := by decide +kernel
theorem dL_law_404 : decode cL_law 404 = .ok (.iconst 3, 1) := by decide +kernel
theorem dL_law_405 : decode cL_law 405 = .ok (.iadd, 1) := by decide +kernel
theorem dL_law_406 : decode cL_law 406 = .ok (.iaload, 1) := by decide +kernel
theorem dL_law_407 : decode cL_law 407 = .ok (.aload_n 3, 1) := by decide +kernel
theorem dL_law_408 : decode cL_law 408 = .ok (.invokestatic 118, 3) := by decide +kernel
theorem dL_law_411 : decode cL_law 411 = .ok (.istore 5, 2) := by decide +kernel
theorem dL_law_413 : decode cL_law 413 = .ok (.aload_n 2, 1) := by decide +kernel
theorem dL_law_414 : decode cL_law 414 = .ok (.aload_n 0, 1) := by decide +kernel
theorem dL_law_415 : decode cL_law 415 = .ok (.iload 4, 2) := by decide +kernel
theorem dL_law_417 : decode cL_law 417 = .ok (.iconst 1, 1) := by decide +kernel
theorem dL_law_418 : decode cL_law 418 = .ok (.iadd, 1) := by decide +kernel
theorem dL_law_419 : decode cL_law 419 = .ok (.iaload, 1) := by decide +kernel
theorem dL_law_420 : decode cL_law 420 = .ok (.aload_n 0, 1) := by decide +kernel
theorem dL_law_421 : decode cL_law 421 = .ok (.iload 4, 2) := by decide +kernel
theorem dL_law_423 : decode cL_law 423 = .ok (.iconst 2, 1) := by decide +kernel
theorem dL_law_424 : decode cL_law 424 = .ok (.iadd, 1) := by decide +kernel
theorem dL_law_425 : decode cL_law 425 = .ok (.iaload, 1) := by decide +kernel
theorem dL_law_426 : decode cL_law 426 = .ok (.aload_n 0, 1) := by decide +kernel
theorem dL_law_427 : decode cL_law 427 = .ok (.iload 4, 2) := by decide +kernel
theorem dL_law_429 : decode cL_law 429 = .ok (.iconst 3, 1) := by decide +kernel
theorem dL_law_430 : decode cL_law 430 = .ok (.iadd, 1) := by decide +kernel
theorem dL_law_431 : decode cL_law 431 = .ok (.iaload, 1) := by decide +kernel
theorem dL_law_432 : decode cL_law 432 = .ok (.invokevirtual 120, 3) := by decide +kernel
theorem dL_law_435 : decode cL_law 435 = .ok (.istore 6, 2) := by decide +kernel
theorem dL_law_437 : decode cL_law 437 = .ok (.aload_n 2, 1) := by decide +kernel
theorem dL_law_438 : decode cL_law 438 = .ok (.invokevirtual 108, 3) := by decide +kernel
theorem dL_law_441 : decode cL_law 441 = .ok (.iload 5, 2) := by decide +kernel
theorem dL_law_443 : decode cL_law 443 = .ok (.if_icmp .eq 5, 3) := by decide +kernel
theorem dL_law_448 : decode cL_law 448 = .ok (.iload 5, 2) := by decide +kernel
theorem dL_law_450 : decode cL_law 450 = .ok (.ifCond .ne 15, 3) := by decide +kernel
theorem dL_law_453 : decode cL_law 453 = .ok (.aload_n 3, 1) := by decide +kernel
theorem dL_law_454 : decode cL_law 454 = .ok (.iconst 0, 1) := by decide +kernel
theorem dL_law_455 : decode cL_law 455 = .ok (.laload, 1) := by decide +kernel
theorem dL_law_456 : decode cL_law 456 = .ok (.iload 6, 2) := by decide +kernel
theorem dL_law_458 : decode cL_law 458 = .ok (.i2l, 1) := by decide +kernel
theorem dL_law_459 : decode cL_law 459 = .ok (.lcmp, 1) := by decide +kernel
theorem dL_law_460 : decode cL_law 460 = .ok (.ifCond .eq 5, 3) := by decide +kernel
theorem dL_law_465 : decode cL_law 465 = .ok (.goto 1467, 3) := by decide +kernel
theorem C_dock (C : Ok X cL_law wsL_law RL (some .boolean) 12 7) (hX : va_X b N xs (xS X) (xS X).heap) (hb : b < (xS X).heap.size ∧ b < gZ (xG X)) (hN : N ≤ 3072) (hi : 0 ≤ i ∧ i + 6 ≤ N) (hO : hasS S o (.inl (1, 1))) (hM : MoS S r) {f9 : Nat} (hf9 : f9 ≤ 11)
    (hL : Ct (xG X) (xL X) yL_dock wsL_dock 9 1 6 [.ref a, .int (I32 (sc xs (i + 1))), .int (I32 (sc xs (i + 2))), .int (I32 (sc xs (i + 3))), .ref o] S n mu la (Lp S c mu1 la1)) (hR : ∀ n1, Ct (xG X) (xL X) yX9_dock wsX9_dock f9 0 0 [.ref r, .int (I32 (sc xs (i + 1))), .int (I32 (sc xs (i + 2))), .int (I32 (sc xs (i + 3)))] S n1 mu1 la1 (Dt (some (.int (I32 v))) S n1 mu2 la2)) (hc : 0 ≤ c ∧ c ≤ 3) (h7 : mu2 r 7 = c) (ho : c = 0 → la2 o 0 = (I32 v).toInt64) (hk : k + 1 ≤ (xR X).cells ∧ sl + 6 ≤ (xR X).slots)
    (kk : ∀ n1, V X 1932 [some (.ref b), some (.ref a), some (.ref r), some (.ref o), some (.int (I32 i)), none, none] [] S n1 mu2 la2 (k + 1) (sl + 6)) : V X 388 [some (.ref b), some (.ref a), some (.ref r), some (.ref o), some (.int (I32 i)), none, none] [] S n mu la k sl := by
  refine V_aload_n C dL_law_388 rfl ?_
  refine V_aload_n C dL_law_389 rfl ?_
  refine V_iload C dL_law_390 rfl ?_
  refine V_iconst C dL_law_392 ?_
  refine V_iadd C dL_law_393 ?_
  refine V_sald C hX hb hN (by omega) dL_law_394 ?_
  refine V_aload_n C dL_law_395 rfl ?_
  refine V_iload C dL_law_396 rfl ?_
  refine V_iconst C dL_law_398 ?_
  refine V_iadd C dL_law_399 ?_
  refine V_sald C hX hb hN (by omega) dL_law_400 ?_
  refine V_aload_n C dL_law_401 rfl ?_
  refine V_iload C dL_law_402 rfl ?_
  refine V_iconst C dL_law_404 ?_
  refine V_iadd C dL_law_405 ?_
  refine V_sald C hX hb hN (by omega) dL_law_406 ?_
  refine V_aload_n C dL_law_407 rfl ?_
  refine V_callSH (nA := 5) C dL_law_408 hL gL_law_L_dock rfl (by decide +kernel) rfl (by omega) (by decide) (Nat.le_of_ble_eq_true rfl) hk rfl ?_
  rintro _ S9 n1 mu9 la9 ⟨q0, q1, q2, q3⟩
  rw [q0, q1, q2, q3]
  refine V_istore C dL_law_411 rfl (by decide) ?_
  refine V_aload_n C dL_law_413 rfl ?_
  refine V_aload_n C dL_law_414 rfl ?_
  refine V_iload C dL_law_415 rfl ?_
  refine V_iconst C dL_law_417 ?_
  refine V_iadd C dL_law_418 ?_
  refine V_sald C hX hb hN (by omega) dL_law_419 ?_
  refine V_aload_n C dL_law_420 rfl ?_
  refine V_iload C dL_law_421 rfl ?_
  refine V_iconst C dL_law_423 ?_
  refine V_iadd C dL_law_424 ?_
  refine V_sald C hX hb hN (by omega) dL_law_425 ?_
  refine V_aload_n C dL_law_426 rfl ?_
  refine V_iload C dL_law_427 rfl ?_
  refine V_iconst C dL_law_429 ?_
  refine V_iadd C dL_law_430 ?_
  refine V_sald C hX hb hN (by omega) dL_law_431 ?_
  refine V_callVD (nA := 3) C dL_law_432 (hR n1) gL_law_X9_dock rfl hM.1 rfl (by decide +kernel) rfl (by omega) (by decide) (Nat.le_of_ble_eq_true rfl) hk rfl ?_
  refine V_istore C dL_law_435 rfl (by decide) ?_
  refine V_aload_n C dL_law_437 rfl ?_
  refine V_callVD (nA := 0) C dL_law_438 (m_thrown C.gp hM) gL_law_X9_thrown rfl hM.1 rfl (by decide +kernel) rfl (by omega) (by decide) (Nat.le_of_ble_eq_true rfl) hk rfl ?_
  refine V_iload C dL_law_441 rfl ?_
  refine V_icmp_eq C 448 dL_law_443 (by decide) (by omega) (by omega) (fun _ => ?_) (fun z => absurd h7 z)
  refine V_iload C dL_law_448 rfl ?_
  have fin : V X 465 [some (.ref b), some (.ref a), some (.ref r), some (.ref o), some (.int (I32 i)), some (.int (I32 c)), some (.int (I32 v))] [] S n1 mu2 la2 (k + 1) (sl + 6) := by
    refine V_goto C 1932 dL_law_465 (by decide) ?_
    exact V_fgt (r' := [some (.ref b), some (.ref a), some (.ref r), some (.ref o), some (.int (I32 i)), none, none]) (fun q9 h9 => by simp only [rOf, List.mem_cons, List.not_mem_nil, or_false] at h9 ⊢; rcases h9 with h | h | h | h | h <;> simp [h]) (kk n1)
  refine V_if_ne C 465 dL_law_450 (by decide) (by omega) (fun _ => fin) (fun z => ?_)
  refine V_aload_n C dL_law_453 rfl ?_
  refine V_iconst C dL_law_454 ?_
  refine V_lald C dL_law_455 hO (by decide) (by decide) ?_
  refine V_iload C dL_law_456 rfl ?_
  refine V_i2l C dL_law_458 ?_
  refine V_lcmp C dL_law_459 ?_
  rw [show la2 o (0 : Int).toNat = (I32 v).toInt64 from ho z, lg_cmp_xx]
  exact V_if_eq C 465 dL_law_460 (by decide) (by omega) (fun _ => fin) (fun z9 => absurd rfl z9)
set_option maxRecDepth 20000 in
theorem ggL_law_L_dockAtEdge : GoodIn wsL_law wsL_dockAtEdge := goodIn_ca (goodIn_ca (goodIn_ca (goodIn_s _ [(566, 1), (386, 1), (122, 1), (567, 3), (2, 1), (570, 1), (20, 1), (16, 1), (28, 1), (571, 4), (391, 4), (130, 15), (19, 1), (145, 11), (67, 1), (156, 3), (15, 1), (159, 1), (38, 2), (160, 1), (41, 1), (43, 1), (45, 1), (161, 10), (31, 1), (171, 1), (50, 8), (172, 4), (44, 1), (176, 6), (575, 4), (427, 9), (206, 2), (436, 4), (221, 2), (440, 16), (460, 8), (456, 4), (472, 1), (231, 3), (473, 6), (468, 4), (479, 4), (182, 7), (27, 1), (189, 2), (79, 1), (191, 6), (78, 1), (197, 1), (59, 3), (198, 8), (208, 5), (80, 1), (213, 8), (223, 4), (81, 1), (227, 4), (234, 4), (84, 1), (238, 12), (82, 2), (250, 8), (89, 1), (85, 1), (258, 7), (88, 1), (265, 15), (93, 2), (96, 1), (280, 8), (95, 1), (288, 24), (579, 4), (1349, 6), (1379, 10), (1408, 8), (1395, 13), (1416, 6)] (by rfl) (by decide +kernel)) (goodIn_sub (fun _ h => List.mem_append_left _ (List.mem_append_left _ (List.mem_append_right _ h))) (by decide +kernel))) (goodIn_sub (fun _ h => List.mem_append_left _ (List.mem_append_right _ h)) (by decide +kernel))) (goodIn_sub (fun _ h => List.mem_append_right _ h) (by decide +kernel))
set_option maxRecDepth 20000 in
theorem gL_law_L_dockAtEdge : GoodIn wsL_law (va_wsS RL 121 yL_dockAtEdge wsL_dockAtEdge) := goodIn_app (goodIn_of _ (by decide +kernel)) ggL_law_L_dockAtEdge
set_option maxRecDepth 20000 in
theorem ggL_law_X9_dockAtEdge : GoodIn wsL_law wsX9_dockAtEdge := goodIn_s _ [(586, 1), (327, 3), (5, 1), (330, 1), (104, 1), (102, 1), (331, 3), (587, 4), (378, 1), (404, 4), (319, 3), (513, 4), (501, 4), (517, 12), (505, 4), (529, 16), (591, 4), (545, 19), (595, 4), (379, 4), (322, 5), (334, 5), (103, 1), (339, 4), (1355, 24)] (by rfl) (by decide +kernel)
set_option maxRecDepth 20000 in
theorem gL_law_X9_dockAtEdge : GoodIn wsL_law (wsV RL 123 RX9 yX9_dockAtEdge wsX9_dockAtEdge) := goodIn_app (goodIn_of _ (by decide +kernel)) ggL_law_X9_dockAtEdge
theorem dL_law_468 : decode cL_law 468 = .ok (.aload_n 1, 1) := by decide +kernel
theorem dL_law_469 : decode cL_law 469 = .ok (.aload_n 0, 1) := by decide +kernel
theorem dL_law_470 : decode cL_law 470 = .ok (.iload 4, 2) := by decide +kernel
theorem dL_law_472 : decode cL_law 472 = .ok (.iconst 1, 1) := by decide +kernel
theorem dL_law_473 : decode cL_law 473 = .ok (.iadd, 1) := by decide +kernel
theorem dL_law_474 : decode cL_law 474 = .ok (.iaload, 1) := by decide +kernel
theorem dL_law_475 : decode cL_law 475 = .ok (.aload_n 0, 1) := by decide +kernel
theorem dL_law_476 : decode cL_law 476 = .ok (.iload 4, 2) := by decide +kernel
theorem dL_law_478 : decode cL_law 478 = .ok (.iconst 2, 1) := by decide +kernel
theorem dL_law_479 : decode cL_law 479 = .ok (.iadd, 1) := by decide +kernel
theorem dL_law_480 : decode cL_law 480 = .ok (.iaload, 1) := by decide +kernel
theorem dL_law_481 : decode cL_law 481 = .ok (.aload_n 3, 1) := by decide +kernel
theorem dL_law_482 : decode cL_law 482 = .ok (.invokestatic 121, 3) := by decide +kernel
theorem dL_law_485 : decode cL_law 485 = .ok (.istore 5, 2) := by decide +kernel
theorem dL_law_487 : decode cL_law 487 = .ok (.aload_n 2, 1) := by decide +kernel
theorem dL_law_488 : decode cL_law 488 = .ok (.aload_n 0, 1) := by decide +kernel
theorem dL_law_489 : decode cL_law 489 = .ok (.iload 4, 2) := by decide +kernel
theorem dL_law_491 : decode cL_law 491 = .ok (.iconst 1, 1) := by decide +kernel
theorem dL_law_492 : decode cL_law 492 = .ok (.iadd, 1) := by decide +kernel
theorem dL_law_493 : decode cL_law 493 = .ok (.iaload, 1) := by decide +kernel
theorem dL_law_494 : decode cL_law 494 = .ok (.aload_n 0, 1) := by decide +kernel
theorem dL_law_495 : decode cL_law 495 = .ok (.iload 4, 2) := by decide +kernel
theorem dL_law_497 : decode cL_law 497 = .ok (.iconst 2, 1) := by decide +kernel
theorem dL_law_498 : decode cL_law 498 = .ok (.iadd, 1) := by decide +kernel
theorem dL_law_499 : decode cL_law 499 = .ok (.iaload, 1) := by decide +kernel
theorem dL_law_500 : decode cL_law 500 = .ok (.invokevirtual 123, 3) := by decide +kernel
theorem dL_law_503 : decode cL_law 503 = .ok (.istore 6, 2) := by decide +kernel
theorem dL_law_505 : decode cL_law 505 = .ok (.aload_n 2, 1) := by decide +kernel
theorem dL_law_506 : decode cL_law 506 = .ok (.invokevirtual 108, 3) := by decide +kernel
theorem dL_law_509 : decode cL_law 509 = .ok (.iload 5, 2) := by decide +kernel
theorem dL_law_511 : decode cL_law 511 = .ok (.if_icmp .eq 5, 3) := by decide +kernel
theorem dL_law_516 : decode cL_law 516 = .ok (.iload 5, 2) := by decide +kernel
theorem dL_law_518 : decode cL_law 518 = .ok (.ifCond .ne 15, 3) := by decide +kernel
theorem dL_law_521 : decode cL_law 521 = .ok (.aload_n 3, 1) := by decide +kernel
theorem dL_law_522 : decode cL_law 522 = .ok (.iconst 0, 1) := by decide +kernel
theorem dL_law_523 : decode cL_law 523 = .ok (.laload, 1) := by decide +kernel
theorem dL_law_524 : decode cL_law 524 = .ok (.iload 6, 2) := by decide +kernel
theorem dL_law_526 : decode cL_law 526 = .ok (.i2l, 1) := by decide +kernel
theorem dL_law_527 : decode cL_law 527 = .ok (.lcmp, 1) := by decide +kernel
theorem dL_law_528 : decode cL_law 528 = .ok (.ifCond .eq 5, 3) := by decide +kernel
theorem dL_law_533 : decode cL_law 533 = .ok (.goto 1399, 3) := by decide +kernel
theorem C_dockAtEdge (C : Ok X cL_law wsL_law RL (some .boolean) 12 7) (hX : va_X b N xs (xS X) (xS X).heap) (hb : b < (xS X).heap.size ∧ b < gZ (xG X)) (hN : N ≤ 3072) (hi : 0 ≤ i ∧ i + 6 ≤ N) (hO : hasS S o (.inl (1, 1))) (hM : MoS S r) {f9 : Nat} (hf9 : f9 ≤ 11)
    (hL : Ct (xG X) (xL X) yL_dockAtEdge wsL_dockAtEdge 9 1 6 [.ref a, .int (I32 (sc xs (i + 1))), .int (I32 (sc xs (i + 2))), .ref o] S n mu la (Lp S c mu1 la1)) (hR : ∀ n1, Ct (xG X) (xL X) yX9_dockAtEdge wsX9_dockAtEdge f9 0 0 [.ref r, .int (I32 (sc xs (i + 1))), .int (I32 (sc xs (i + 2)))] S n1 mu1 la1 (Dt (some (.int (I32 v))) S n1 mu2 la2)) (hc : 0 ≤ c ∧ c ≤ 3) (h7 : mu2 r 7 = c) (ho : c = 0 → la2 o 0 = (I32 v).toInt64) (hk : k + 1 ≤ (xR X).cells ∧ sl + 6 ≤ (xR X).slots)
    (kk : ∀ n1, V X 1932 [some (.ref b), some (.ref a), some (.ref r), some (.ref o), some (.int (I32 i)), none, none] [] S n1 mu2 la2 (k + 1) (sl + 6)) : V X 468 [some (.ref b), some (.ref a), some (.ref r), some (.ref o), some (.int (I32 i)), none, none] [] S n mu la k sl := by
  refine V_aload_n C dL_law_468 rfl ?_
  refine V_aload_n C dL_law_469 rfl ?_
  refine V_iload C dL_law_470 rfl ?_
  refine V_iconst C dL_law_472 ?_
  refine V_iadd C dL_law_473 ?_
  refine V_sald C hX hb hN (by omega) dL_law_474 ?_
  refine V_aload_n C dL_law_475 rfl ?_
  refine V_iload C dL_law_476 rfl ?_
  refine V_iconst C dL_law_478 ?_
  refine V_iadd C dL_law_479 ?_
  refine V_sald C hX hb hN (by omega) dL_law_480 ?_
  refine V_aload_n C dL_law_481 rfl ?_
  refine V_callSH (nA := 4) C dL_law_482 hL gL_law_L_dockAtEdge rfl (by decide +kernel) rfl (by omega) (by decide) (Nat.le_of_ble_eq_true rfl) hk rfl ?_
  rintro _ S9 n1 mu9 la9 ⟨q0, q1, q2, q3⟩
  rw [q0, q1, q2, q3]
  refine V_istore C dL_law_485 rfl (by decide) ?_
  refine V_aload_n C dL_law_487 rfl ?_
  refine V_aload_n C dL_law_488 rfl ?_
  refine V_iload C dL_law_489 rfl ?_
  refine V_iconst C dL_law_491 ?_
  refine V_iadd C dL_law_492 ?_
  refine V_sald C hX hb hN (by omega) dL_law_493 ?_
  refine V_aload_n C dL_law_494 rfl ?_
  refine V_iload C dL_law_495 rfl ?_
  refine V_iconst C dL_law_497 ?_
  refine V_iadd C dL_law_498 ?_
  refine V_sald C hX hb hN (by omega) dL_law_499 ?_
  refine V_callVD (nA := 2) C dL_law_500 (hR n1) gL_law_X9_dockAtEdge rfl hM.1 rfl (by decide +kernel) rfl (by omega) (by decide) (Nat.le_of_ble_eq_true rfl) hk rfl ?_
  refine V_istore C dL_law_503 rfl (by decide) ?_
  refine V_aload_n C dL_law_505 rfl ?_
  refine V_callVD (nA := 0) C dL_law_506 (m_thrown C.gp hM) gL_law_X9_thrown rfl hM.1 rfl (by decide +kernel) rfl (by omega) (by decide) (Nat.le_of_ble_eq_true rfl) hk rfl ?_
  refine V_iload C dL_law_509 rfl ?_
  refine V_icmp_eq C 516 dL_law_511 (by decide) (by omega) (by omega) (fun _ => ?_) (fun z => absurd h7 z)
  refine V_iload C dL_law_516 rfl ?_
  have fin : V X 533 [some (.ref b), some (.ref a), some (.ref r), some (.ref o), some (.int (I32 i)), some (.int (I32 c)), some (.int (I32 v))] [] S n1 mu2 la2 (k + 1) (sl + 6) := by
    refine V_goto C 1932 dL_law_533 (by decide) ?_
    exact V_fgt (r' := [some (.ref b), some (.ref a), some (.ref r), some (.ref o), some (.int (I32 i)), none, none]) (fun q9 h9 => by simp only [rOf, List.mem_cons, List.not_mem_nil, or_false] at h9 ⊢; rcases h9 with h | h | h | h | h <;> simp [h]) (kk n1)
  refine V_if_ne C 533 dL_law_518 (by decide) (by omega) (fun _ => fin) (fun z => ?_)
  refine V_aload_n C dL_law_521 rfl ?_
  refine V_iconst C dL_law_522 ?_
  refine V_lald C dL_law_523 hO (by decide) (by decide) ?_
  refine V_iload C dL_law_524 rfl ?_
  refine V_i2l C dL_law_526 ?_
  refine V_lcmp C dL_law_527 ?_
  rw [show la2 o (0 : Int).toNat = (I32 v).toInt64 from ho z, lg_cmp_xx]
  exact V_if_eq C 533 dL_law_528 (by decide) (by omega) (fun _ => fin) (fun z9 => absurd rfl z9)
set_option maxRecDepth 20000 in
theorem ggL_law_L_floatAt : GoodIn wsL_law wsL_floatAt := goodIn_ca (goodIn_ca (goodIn_ca (goodIn_s _ [(601, 1), (386, 1), (122, 1), (602, 3), (2, 1), (605, 1), (20, 1), (16, 1), (606, 4), (391, 4), (133, 12), (19, 1), (145, 11), (67, 1), (156, 3), (15, 1), (159, 1), (38, 2), (160, 1), (41, 1), (43, 1), (45, 1), (161, 10), (31, 1), (171, 1), (50, 8), (172, 4), (44, 1), (176, 6), (610, 4), (427, 9), (206, 2), (436, 4), (221, 2), (440, 16), (460, 8), (456, 4), (182, 4), (28, 1), (186, 3), (27, 1), (189, 2), (79, 1), (191, 6), (78, 1), (197, 1), (59, 3), (198, 8), (208, 5), (80, 1), (213, 8), (223, 4), (81, 1), (227, 11), (84, 1), (238, 12), (82, 2), (250, 8), (89, 1), (85, 1), (258, 7), (88, 1), (265, 15), (93, 2), (96, 1), (280, 8), (95, 1), (288, 24), (484, 1), (1349, 6), (1379, 10), (1408, 8), (1395, 13), (1416, 6)] (by rfl) (by decide +kernel)) (goodIn_sub (fun _ h => List.mem_append_left _ (List.mem_append_left _ (List.mem_append_right _ h))) (by decide +kernel))) (goodIn_sub (fun _ h => List.mem_append_left _ (List.mem_append_right _ h)) (by decide +kernel))) (goodIn_sub (fun _ h => List.mem_append_right _ h) (by decide +kernel))
set_option maxRecDepth 20000 in
theorem gL_law_L_floatAt : GoodIn wsL_law (va_wsS RL 124 yL_floatAt wsL_floatAt) := goodIn_app (goodIn_of _ (by decide +kernel)) ggL_law_L_floatAt
set_option maxRecDepth 20000 in
theorem ggL_law_X9_floatAt : GoodIn wsL_law wsX9_floatAt := goodIn_s _ [(617, 1), (327, 3), (5, 1), (330, 1), (104, 1), (102, 1), (331, 3), (618, 4), (378, 1), (404, 4), (319, 3), (513, 4), (501, 4), (517, 12), (505, 4), (529, 16), (595, 4), (545, 8), (379, 4), (322, 5), (334, 5), (103, 1), (339, 4), (1355, 24)] (by rfl) (by decide +kernel)
set_option maxRecDepth 20000 in
theorem gL_law_X9_floatAt : GoodIn wsL_law (wsV RL 127 RX9 yX9_floatAt wsX9_floatAt) := goodIn_app (goodIn_of _ (by decide +kernel)) ggL_law_X9_floatAt
theorem dL_law_536 : decode cL_law 536 = .ok (.aload_n 1, 1) := by decide +kernel
theorem dL_law_537 : decode cL_law 537 = .ok (.aload_n 0, 1) := by decide +kernel
theorem dL_law_538 : decode cL_law 538 = .ok (.iload 4, 2) := by decide +kernel
theorem dL_law_540 : decode cL_law 540 = .ok (.iconst 1, 1) := by decide +kernel
theorem dL_law_541 : decode cL_law 541 = .ok (.iadd, 1) := by decide +kernel
theorem dL_law_542 : decode cL_law 542 = .ok (.iaload, 1) := by decide +kernel
theorem dL_law_543 : decode cL_law 543 = .ok (.aload_n 0, 1) := by decide +kernel
theorem dL_law_544 : decode cL_law 544 = .ok (.iload 4, 2) := by decide +kernel
theorem dL_law_546 : decode cL_law 546 = .ok (.iconst 2, 1) := by decide +kernel
theorem dL_law_547 : decode cL_law 547 = .ok (.iadd, 1) := by decide +kernel
theorem dL_law_548 : decode cL_law 548 = .ok (.iaload, 1) := by decide +kernel
theorem dL_law_549 : decode cL_law 549 = .ok (.aload_n 0, 1) := by decide +kernel
theorem dL_law_550 : decode cL_law 550 = .ok (.iload 4, 2) := by decide +kernel
theorem dL_law_552 : decode cL_law 552 = .ok (.iconst 3, 1) := by decide +kernel
theorem dL_law_553 : decode cL_law 553 = .ok (.iadd, 1) := by decide +kernel
theorem dL_law_554 : decode cL_law 554 = .ok (.iaload, 1) := by decide +kernel
theorem dL_law_555 : decode cL_law 555 = .ok (.aload_n 0, 1) := by decide +kernel
theorem dL_law_556 : decode cL_law 556 = .ok (.iload 4, 2) := by decide +kernel
theorem dL_law_558 : decode cL_law 558 = .ok (.iconst 4, 1) := by decide +kernel
theorem dL_law_559 : decode cL_law 559 = .ok (.iadd, 1) := by decide +kernel
theorem dL_law_560 : decode cL_law 560 = .ok (.iaload, 1) := by decide +kernel
theorem dL_law_561 : decode cL_law 561 = .ok (.aload_n 0, 1) := by decide +kernel
theorem dL_law_562 : decode cL_law 562 = .ok (.iload 4, 2) := by decide +kernel
theorem dL_law_564 : decode cL_law 564 = .ok (.iconst 5, 1) := by decide +kernel
theorem dL_law_565 : decode cL_law 565 = .ok (.iadd, 1) := by decide +kernel
theorem dL_law_566 : decode cL_law 566 = .ok (.iaload, 1) := by decide +kernel
theorem dL_law_567 : decode cL_law 567 = .ok (.aload_n 3, 1) := by decide +kernel
theorem dL_law_568 : decode cL_law 568 = .ok (.invokestatic 124, 3) := by decide +kernel
theorem dL_law_571 : decode cL_law 571 = .ok (.istore 5, 2) := by decide +kernel
theorem dL_law_573 : decode cL_law 573 = .ok (.aload_n 2, 1) := by decide +kernel
theorem dL_law_574 : decode cL_law 574 = .ok (.aload_n 0, 1) := by decide +kernel
theorem dL_law_575 : decode cL_law 575 = .ok (.iload 4, 2) := by decide +kernel
theorem dL_law_577 : decode cL_law 577 = .ok (.iconst 1, 1) := by decide +kernel
theorem dL_law_578 : decode cL_law 578 = .ok (.iadd, 1) := by decide +kernel
theorem dL_law_579 : decode cL_law 579 = .ok (.iaload, 1) := by decide +kernel
theorem dL_law_580 : decode cL_law 580 = .ok (.aload_n 0, 1) := by decide +kernel
theorem dL_law_581 : decode cL_law 581 = .ok (.iload 4, 2) := by decide +kernel
theorem dL_law_583 : decode cL_law 583 = .ok (.iconst 2, 1) := by decide +kernel
theorem dL_law_584 : decode cL_law 584 = .ok (.iadd, 1) := by decide +kernel
theorem dL_law_585 : decode cL_law 585 = .ok (.iaload, 1) := by decide +kernel
theorem dL_law_586 : decode cL_law 586 = .ok (.aload_n 0, 1) := by decide +kernel
theorem dL_law_587 : decode cL_law 587 = .ok (.iload 4, 2) := by decide +kernel
theorem dL_law_589 : decode cL_law 589 = .ok (.iconst 3, 1) := by decide +kernel
theorem dL_law_590 : decode cL_law 590 = .ok (.iadd, 1) := by decide +kernel
theorem dL_law_591 : decode cL_law 591 = .ok (.iaload, 1) := by decide +kernel
theorem dL_law_592 : decode cL_law 592 = .ok (.aload_n 0, 1) := by decide +kernel
theorem dL_law_593 : decode cL_law 593 = .ok (.iload 4, 2) := by decide +kernel
theorem dL_law_595 : decode cL_law 595 = .ok (.iconst 4, 1) := by decide +kernel
theorem dL_law_596 : decode cL_law 596 = .ok (.iadd, 1) := by decide +kernel
theorem dL_law_597 : decode cL_law 597 = .ok (.iaload, 1) := by decide +kernel
theorem dL_law_598 : decode cL_law 598 = .ok (.aload_n 0, 1) := by decide +kernel
theorem dL_law_599 : decode cL_law 599 = .ok (.iload 4, 2) := by decide +kernel
theorem dL_law_601 : decode cL_law 601 = .ok (.iconst 5, 1) := by decide +kernel
theorem dL_law_602 : decode cL_law 602 = .ok (.iadd, 1) := by decide +kernel
theorem dL_law_603 : decode cL_law 603 = .ok (.iaload, 1) := by decide +kernel
theorem dL_law_604 : decode cL_law 604 = .ok (.invokevirtual 127, 3) := by decide +kernel
theorem dL_law_607 : decode cL_law 607 = .ok (.istore 6, 2) := by decide +kernel
theorem dL_law_609 : decode cL_law 609 = .ok (.aload_n 2, 1) := by decide +kernel
theorem dL_law_610 : decode cL_law 610 = .ok (.invokevirtual 108, 3) := by decide +kernel
theorem dL_law_613 : decode cL_law 613 = .ok (.iload 5, 2) := by decide +kernel
theorem dL_law_615 : decode cL_law 615 = .ok (.if_icmp .eq 5, 3) := by decide +kernel
theorem dL_law_620 : decode cL_law 620 = .ok (.iload 5, 2) := by decide +kernel
theorem dL_law_622 : decode cL_law 622 = .ok (.ifCond .ne 15, 3) := by decide +kernel
theorem dL_law_625 : decode cL_law 625 = .ok (.aload_n 3, 1) := by decide +kernel
theorem dL_law_626 : decode cL_law 626 = .ok (.iconst 0, 1) := by decide +kernel
theorem dL_law_627 : decode cL_law 627 = .ok (.laload, 1) := by decide +kernel
theorem dL_law_628 : decode cL_law 628 = .ok (.iload 6, 2) := by decide +kernel
theorem dL_law_630 : decode cL_law 630 = .ok (.i2l, 1) := by decide +kernel
theorem dL_law_631 : decode cL_law 631 = .ok (.lcmp, 1) := by decide +kernel
theorem dL_law_632 : decode cL_law 632 = .ok (.ifCond .eq 5, 3) := by decide +kernel
theorem dL_law_637 : decode cL_law 637 = .ok (.goto 1295, 3) := by decide +kernel
theorem C_floatAt (C : Ok X cL_law wsL_law RL (some .boolean) 12 7) (hX : va_X b N xs (xS X) (xS X).heap) (hb : b < (xS X).heap.size ∧ b < gZ (xG X)) (hN : N ≤ 3072) (hi : 0 ≤ i ∧ i + 6 ≤ N) (hO : hasS S o (.inl (1, 1))) (hM : MoS S r) {f9 : Nat} (hf9 : f9 ≤ 11)
    (hL : Ct (xG X) (xL X) yL_floatAt wsL_floatAt 9 1 6 [.ref a, .int (I32 (sc xs (i + 1))), .int (I32 (sc xs (i + 2))), .int (I32 (sc xs (i + 3))), .int (I32 (sc xs (i + 4))), .int (I32 (sc xs (i + 5))), .ref o] S n mu la (Lp S c mu1 la1)) (hR : ∀ n1, Ct (xG X) (xL X) yX9_floatAt wsX9_floatAt f9 0 0 [.ref r, .int (I32 (sc xs (i + 1))), .int (I32 (sc xs (i + 2))), .int (I32 (sc xs (i + 3))), .int (I32 (sc xs (i + 4))), .int (I32 (sc xs (i + 5)))] S n1 mu1 la1 (Dt (some (.int (I32 v))) S n1 mu2 la2)) (hc : 0 ≤ c ∧ c ≤ 3) (h7 : mu2 r 7 = c) (ho : c = 0 → la2 o 0 = (I32 v).toInt64) (hk : k + 1 ≤ (xR X).cells ∧ sl + 6 ≤ (xR X).slots)
    (kk : ∀ n1, V X 1932 [some (.ref b), some (.ref a), some (.ref r), some (.ref o), some (.int (I32 i)), none, none] [] S n1 mu2 la2 (k + 1) (sl + 6)) : V X 536 [some (.ref b), some (.ref a), some (.ref r), some (.ref o), some (.int (I32 i)), none, none] [] S n mu la k sl := by
  refine V_aload_n C dL_law_536 rfl ?_
  refine V_aload_n C dL_law_537 rfl ?_
  refine V_iload C dL_law_538 rfl ?_
  refine V_iconst C dL_law_540 ?_
  refine V_iadd C dL_law_541 ?_
  refine V_sald C hX hb hN (by omega) dL_law_542 ?_
  refine V_aload_n C dL_law_543 rfl ?_
  refine V_iload C dL_law_544 rfl ?_
  refine V_iconst C dL_law_546 ?_
  refine V_iadd C dL_law_547 ?_
  refine V_sald C hX hb hN (by omega) dL_law_548 ?_
  refine V_aload_n C dL_law_549 rfl ?_
  refine V_iload C dL_law_550 rfl ?_
  refine V_iconst C dL_law_552 ?_
  refine V_iadd C dL_law_553 ?_
  refine V_sald C hX hb hN (by omega) dL_law_554 ?_
  refine V_aload_n C dL_law_555 rfl ?_
  refine V_iload C dL_law_556 rfl ?_
  refine V_iconst C dL_law_558 ?_
  refine V_iadd C dL_law_559 ?_
  refine V_sald C hX hb hN (by omega) dL_law_560 ?_
  refine V_aload_n C dL_law_561 rfl ?_
  refine V_iload C dL_law_562 rfl ?_
  refine V_iconst C dL_law_564 ?_
  refine V_iadd C dL_law_565 ?_
  refine V_sald C hX hb hN (by omega) dL_law_566 ?_
  refine V_aload_n C dL_law_567 rfl ?_
  refine V_callSH (nA := 7) C dL_law_568 hL gL_law_L_floatAt rfl (by decide +kernel) rfl (by omega) (by decide) (Nat.le_of_ble_eq_true rfl) hk rfl ?_
  rintro _ S9 n1 mu9 la9 ⟨q0, q1, q2, q3⟩
  rw [q0, q1, q2, q3]
  refine V_istore C dL_law_571 rfl (by decide) ?_
  refine V_aload_n C dL_law_573 rfl ?_
  refine V_aload_n C dL_law_574 rfl ?_
  refine V_iload C dL_law_575 rfl ?_
  refine V_iconst C dL_law_577 ?_
  refine V_iadd C dL_law_578 ?_
  refine V_sald C hX hb hN (by omega) dL_law_579 ?_
  refine V_aload_n C dL_law_580 rfl ?_
  refine V_iload C dL_law_581 rfl ?_
  refine V_iconst C dL_law_583 ?_
  refine V_iadd C dL_law_584 ?_
  refine V_sald C hX hb hN (by omega) dL_law_585 ?_
  refine V_aload_n C dL_law_586 rfl ?_
  refine V_iload C dL_law_587 rfl ?_
  refine V_iconst C dL_law_589 ?_
  refine V_iadd C dL_law_590 ?_
  refine V_sald C hX hb hN (by omega) dL_law_591 ?_
  refine V_aload_n C dL_law_592 rfl ?_
  refine V_iload C dL_law_593 rfl ?_
  refine V_iconst C dL_law_595 ?_
  refine V_iadd C dL_law_596 ?_
  refine V_sald C hX hb hN (by omega) dL_law_597 ?_
  refine V_aload_n C dL_law_598 rfl ?_
  refine V_iload C dL_law_599 rfl ?_
  refine V_iconst C dL_law_601 ?_
  refine V_iadd C dL_law_602 ?_
  refine V_sald C hX hb hN (by omega) dL_law_603 ?_
  refine V_callVD (nA := 5) C dL_law_604 (hR n1) gL_law_X9_floatAt rfl hM.1 rfl (by decide +kernel) rfl (by omega) (by decide) (Nat.le_of_ble_eq_true rfl) hk rfl ?_
  refine V_istore C dL_law_607 rfl (by decide) ?_
  refine V_aload_n C dL_law_609 rfl ?_
  refine V_callVD (nA := 0) C dL_law_610 (m_thrown C.gp hM) gL_law_X9_thrown rfl hM.1 rfl (by decide +kernel) rfl (by omega) (by decide) (Nat.le_of_ble_eq_true rfl) hk rfl ?_
  refine V_iload C dL_law_613 rfl ?_
  refine V_icmp_eq C 620 dL_law_615 (by decide) (by omega) (by omega) (fun _ => ?_) (fun z => absurd h7 z)
  refine V_iload C dL_law_620 rfl ?_
  have fin : V X 637 [some (.ref b), some (.ref a), some (.ref r), some (.ref o), some (.int (I32 i)), some (.int (I32 c)), some (.int (I32 v))] [] S n1 mu2 la2 (k + 1) (sl + 6) := by
    refine V_goto C 1932 dL_law_637 (by decide) ?_
    exact V_fgt (r' := [some (.ref b), some (.ref a), some (.ref r), some (.ref o), some (.int (I32 i)), none, none]) (fun q9 h9 => by simp only [rOf, List.mem_cons, List.not_mem_nil, or_false] at h9 ⊢; rcases h9 with h | h | h | h | h <;> simp [h]) (kk n1)
  refine V_if_ne C 637 dL_law_622 (by decide) (by omega) (fun _ => fin) (fun z => ?_)
  refine V_aload_n C dL_law_625 rfl ?_
  refine V_iconst C dL_law_626 ?_
  refine V_lald C dL_law_627 hO (by decide) (by decide) ?_
  refine V_iload C dL_law_628 rfl ?_
  refine V_i2l C dL_law_630 ?_
  refine V_lcmp C dL_law_631 ?_
  rw [show la2 o (0 : Int).toNat = (I32 v).toInt64 from ho z, lg_cmp_xx]
  exact V_if_eq C 637 dL_law_632 (by decide) (by omega) (fun _ => fin) (fun z9 => absurd rfl z9)
end LC
