/-! THE LAW'S WORDS ARE AMONG THE TABLES' -/
set_option maxRecDepth 20000 in
theorem lwi_1 : ∀ w ∈ wsL_law0_r1, w ∈ lw_tbl := fun w h => (goodIn_s (big := lw_tbl) wsL_law0_r1 [(52, 2), (36, 1), (100, 1), (608, 1), (573, 1), (54, 8), (37, 1), (243, 1), (129, 2), (40, 1), (244, 1), (148, 2), (41, 1), (245, 1)] (by rfl) (by decide +kernel) w h).1
set_option maxRecDepth 20000 in
theorem lwi_2 : ∀ w ∈ wsL_law0_r2, w ∈ lw_tbl := fun w h => (goodIn_s (big := lw_tbl) wsL_law0_r2 [(170, 2), (42, 1), (246, 1), (241, 1), (67, 1), (38, 1), (247, 2), (62, 4), (102, 1), (104, 1), (108, 1), (66, 1), (110, 1), (112, 2), (68, 4)] (by rfl) (by decide +kernel) w h).1
set_option maxRecDepth 20000 in
theorem lwi_3 : ∀ w ∈ wsL_law0_r3, w ∈ lw_tbl := fun w h => (goodIn_s (big := lw_tbl) wsL_law0_r3 [(75, 8), (72, 2), (39, 1), (74, 1), (131, 5), (138, 1), (137, 1), (151, 5)] (by rfl) (by decide +kernel) w h).1
set_option maxRecDepth 20000 in
theorem lwi_4 : ∀ w ∈ wsL_law0_r4, w ∈ lw_tbl := fun w h => (goodIn_s (big := lw_tbl) wsL_law0_r4 [(156, 1), (173, 3), (201, 8), (176, 2), (43, 1), (209, 1), (179, 7), (242, 1)] (by rfl) (by decide +kernel) w h).1
set_option maxRecDepth 20000 in
theorem lwi_5 : ∀ w ∈ wsL_law0_r5, w ∈ lw_tbl := fun w h => (goodIn_s (big := lw_tbl) wsL_law0_r5 [(897, 2), (35, 1), (899, 1), (575, 6), (900, 3), (835, 3), (594, 1), (277, 1), (838, 4), (599, 1), (601, 1)] (by rfl) (by decide +kernel) w h).1
set_option maxRecDepth 20000 in
theorem lwi_6 : ∀ w ∈ wsL_law0_r6, w ∈ lw_tbl := fun w h => (goodIn_s (big := lw_tbl) wsL_law0_r6 [(15, 1), (602, 1), (290, 7), (47, 1), (364, 1), (48, 1), (380, 1), (49, 1), (603, 4), (431, 2), (620, 4)] (by rfl) (by decide +kernel) w h).1
set_option maxRecDepth 20000 in
theorem lwi_7 : ∀ w ∈ wsL_law0_r7, w ∈ lw_tbl := fun w h => (goodIn_s (big := lw_tbl) wsL_law0_r7 [(686, 1), (459, 3), (842, 1), (844, 1), (32, 1), (845, 2), (566, 3), (847, 1), (520, 3), (848, 4), (488, 2), (50, 1), (490, 1)] (by rfl) (by decide +kernel) w h).1
set_option maxRecDepth 20000 in
theorem lwi_8 : ∀ w ∈ wsL_law0_r8, w ∈ lw_tbl := fun w h => (goodIn_s (big := lw_tbl) wsL_law0_r8 [(519, 1), (833, 1), (651, 3), (803, 1), (464, 3), (687, 1), (478, 3), (820, 1), (482, 2), (821, 1), (532, 3), (852, 4)] (by rfl) (by decide +kernel) w h).1
set_option maxRecDepth 20000 in
theorem lwi_9 : ∀ w ∈ wsL_law0_r9, w ∈ lw_tbl := fun w h => (goodIn_s (big := lw_tbl) wsL_law0_r9 [(903, 7), (863, 3), (910, 1), (643, 3), (911, 10)] (by rfl) (by decide +kernel) w h).1
set_option maxRecDepth 20000 in
theorem lwi_10 : ∀ w ∈ wsL_law0_r10, w ∈ lw_tbl := fun w h => (goodIn_s (big := lw_tbl) wsL_law0_r10 [(921, 1), (923, 1), (34, 1), (924, 2), (492, 3), (926, 1), (528, 3), (927, 4), (697, 3), (740, 3), (706, 2)] (by rfl) (by decide +kernel) w h).1
set_option maxRecDepth 20000 in
theorem lwi_11 : ∀ w ∈ wsL_law0_r11, w ∈ lw_tbl := fun w h => (goodIn_s (big := lw_tbl) wsL_law0_r11 [(708, 4), (703, 3), (694, 3), (856, 7), (866, 4), (210, 1), (931, 2)] (by rfl) (by decide +kernel) w h).1
set_option maxRecDepth 20000 in
theorem lwi_12 : ∀ w ∈ wsL_law0_r12, w ∈ lw_tbl := fun w h => (goodIn_s (big := lw_tbl) wsL_law0_r12 [(933, 5), (870, 8), (879, 1), (33, 1), (880, 1), (733, 4), (211, 1), (881, 3)] (by rfl) (by decide +kernel) w h).1
set_option maxRecDepth 20000 in
theorem lwi_13 : ∀ w ∈ wsL_law0_r13, w ∈ lw_tbl := fun w h => (goodIn_s (big := lw_tbl) wsL_law0_r13 [(884, 5), (527, 1), (889, 4), (212, 1), (893, 4), (213, 1), (262, 8)] (by rfl) (by decide +kernel) w h).1
set_option maxRecDepth 20000 in
theorem lwi_14 : ∀ w ∈ wsL_law0_r14, w ∈ lw_tbl := fun w h => (goodIn_s (big := lw_tbl) wsL_law0_r14 [(270, 4), (574, 1), (274, 3), (278, 6), (285, 1), (0, 1), (286, 4), (396, 4)] (by rfl) (by decide +kernel) w h).1
set_option maxRecDepth 20000 in
theorem lwi_15 : ∀ w ∈ wsL_law0_r15, w ∈ lw_tbl := fun w h => (goodIn_s (big := lw_tbl) wsL_law0_r15 [(140, 1), (139, 1), (433, 1), (412, 2), (400, 1), (402, 1), (2, 1), (403, 5), (106, 1), (409, 3), (414, 1), (416, 1), (415, 1), (51, 1), (417, 3)] (by rfl) (by decide +kernel) w h).1
set_option maxRecDepth 20000 in
theorem lwi_16 : ∀ w ∈ wsL_law0_r16, w ∈ lw_tbl := fun w h => (goodIn_s (big := lw_tbl) wsL_law0_r16 [(420, 1), (422, 1), (424, 1), (3, 1), (425, 5), (434, 8), (443, 3), (447, 1), (4, 1), (448, 2)] (by rfl) (by decide +kernel) w h).1
set_option maxRecDepth 20000 in
theorem lwi_17 : ∀ w ∈ wsL_law0_r17, w ∈ lw_tbl := fun w h => (goodIn_s (big := lw_tbl) wsL_law0_r17 [(450, 4), (455, 1), (5, 1), (456, 3), (463, 1), (468, 1), (470, 1), (6, 1), (471, 5), (477, 1), (484, 1), (486, 1), (7, 1), (487, 1), (491, 1)] (by rfl) (by decide +kernel) w h).1
set_option maxRecDepth 20000 in
theorem lwi_18 : ∀ w ∈ wsL_law0_r18, w ∈ lw_tbl := fun w h => (goodIn_s (big := lw_tbl) wsL_law0_r18 [(495, 1), (497, 1), (8, 1), (498, 10), (509, 1), (9, 1), (510, 2), (513, 1), (10, 1), (514, 2), (517, 1), (11, 1), (518, 1)] (by rfl) (by decide +kernel) w h).1
set_option maxRecDepth 20000 in
theorem lwi_19 : ∀ w ∈ wsL_law0_r19, w ∈ lw_tbl := fun w h => (goodIn_s (big := lw_tbl) wsL_law0_r19 [(523, 4), (186, 2), (531, 1), (535, 4), (540, 8), (549, 1), (551, 1), (12, 1), (552, 2)] (by rfl) (by decide +kernel) w h).1
set_option maxRecDepth 20000 in
theorem lwi_20 : ∀ w ∈ wsL_law0_r20, w ∈ lw_tbl := fun w h => (goodIn_s (big := lw_tbl) wsL_law0_r20 [(554, 4), (559, 1), (13, 1), (560, 2), (563, 1), (14, 1), (564, 2), (569, 4), (581, 8)] (by rfl) (by decide +kernel) w h).1
set_option maxRecDepth 20000 in
theorem lwi_21 : ∀ w ∈ wsL_law0_r21, w ∈ lw_tbl := fun w h => (goodIn_s (big := lw_tbl) wsL_law0_r21 [(589, 5), (595, 4), (607, 1), (609, 8), (618, 1), (16, 1), (619, 1), (624, 3)] (by rfl) (by decide +kernel) w h).1
set_option maxRecDepth 20000 in
theorem lwi_22 : ∀ w ∈ wsL_law0_r22, w ∈ lw_tbl := fun w h => (goodIn_s (big := lw_tbl) wsL_law0_r22 [(627, 5), (654, 1), (632, 1), (634, 1), (17, 1), (635, 1), (637, 1), (639, 1), (18, 1), (640, 1), (642, 1), (646, 1), (648, 1), (19, 1), (649, 2), (655, 4)] (by rfl) (by decide +kernel) w h).1
set_option maxRecDepth 20000 in
theorem lwi_23 : ∀ w ∈ wsL_law0_r23, w ∈ lw_tbl := fun w h => (goodIn_s (big := lw_tbl) wsL_law0_r23 [(659, 1), (661, 1), (20, 1), (662, 2), (665, 1), (21, 1), (666, 2), (669, 1), (22, 1), (670, 2), (673, 1), (23, 1), (674, 9)] (by rfl) (by decide +kernel) w h).1
set_option maxRecDepth 20000 in
theorem lwi_24 : ∀ w ∈ wsL_law0_r24, w ∈ lw_tbl := fun w h => (goodIn_s (big := lw_tbl) wsL_law0_r24 [(684, 1), (24, 1), (685, 1), (688, 6), (700, 3), (712, 12)] (by rfl) (by decide +kernel) w h).1
set_option maxRecDepth 20000 in
theorem lwi_25 : ∀ w ∈ wsL_law0_r25, w ∈ lw_tbl := fun w h => (goodIn_s (big := lw_tbl) wsL_law0_r25 [(724, 2), (727, 1), (25, 1), (728, 5), (737, 3), (743, 11), (755, 1)] (by rfl) (by decide +kernel) w h).1
set_option maxRecDepth 20000 in
theorem lwi_26 : ∀ w ∈ wsL_law0_r26, w ∈ lw_tbl := fun w h => (goodIn_s (big := lw_tbl) wsL_law0_r26 [(26, 1), (756, 13), (770, 1), (27, 1), (771, 2), (774, 1), (28, 1), (775, 4)] (by rfl) (by decide +kernel) w h).1
set_option maxRecDepth 20000 in
theorem lwi_27 : ∀ w ∈ wsL_law0_r27, w ∈ lw_tbl := fun w h => (goodIn_s (big := lw_tbl) wsL_law0_r27 [(779, 17), (797, 1), (29, 1), (798, 2), (801, 1), (30, 1), (802, 1)] (by rfl) (by decide +kernel) w h).1
set_option maxRecDepth 20000 in
theorem lwi_28 : ∀ w ∈ wsL_law0_r28, w ∈ lw_tbl := fun w h => (goodIn_s (big := lw_tbl) wsL_law0_r28 [(804, 12), (817, 1), (31, 1), (818, 2), (822, 8)] (by rfl) (by decide +kernel) w h).1
set_option maxRecDepth 20000 in
theorem lwi_29 : ∀ w ∈ wsL_law0_r29, w ∈ lw_tbl := fun w h => (goodIn_s (big := lw_tbl) wsL_law0_r29 [(830, 3), (834, 1)] (by rfl) (by decide +kernel) w h).1
theorem lwa {a b T : List Cond} (ha : ∀ w ∈ a, w ∈ T) (hb : ∀ w ∈ b, w ∈ T) : ∀ w ∈ a ++ b, w ∈ T := fun w h => (List.mem_append.mp h).elim (ha w) (hb w)
theorem lwx_8 : ∀ w ∈ wsX80, w ∈ lw_tbl := by decide +kernel
theorem lwx_7 : ∀ w ∈ wsX70, w ∈ lw_tbl := by decide +kernel
theorem lwx_3 : ∀ w ∈ wsX30, w ∈ lw_tbl := by decide +kernel
theorem lwx_2 : ∀ w ∈ wsX20, w ∈ lw_tbl := by decide +kernel
theorem lwx_5 : ∀ w ∈ wsX50, w ∈ lw_tbl := by decide +kernel
theorem lwx_4 : ∀ w ∈ wsX40, w ∈ lw_tbl := by decide +kernel
theorem lwx_6 : ∀ w ∈ wsX60, w ∈ lw_tbl := by decide +kernel
theorem wsL_law_in0 : ∀ w ∈ wsL_law0, w ∈ lw_tbl := lwa (lwa (lwa (lwa (lwa (lwa (lwa (lwa (lwa lwi_1 (lwa lwi_2 (lwa lwi_3 (lwa lwi_4 (lwa lwi_5 (lwa lwi_6 (lwa lwi_7 (lwa lwi_8 (lwa lwi_9 (lwa lwi_10 (lwa lwi_11 (lwa lwi_12 (lwa lwi_13 (lwa lwi_14 (lwa lwi_15 (lwa lwi_16 (lwa lwi_17 (lwa lwi_18 (lwa lwi_19 (lwa lwi_20 (lwa lwi_21 (lwa lwi_22 (lwa lwi_23 (lwa lwi_24 (lwa lwi_25 (lwa lwi_26 (lwa lwi_27 (lwa lwi_28 (lwi_29))))))))))))))))))))))))))))) lwx_8) lwx_7) lwx_3) lwx_2) lwx_5) lwx_4) lwx_6) (fun _ h => absurd h List.not_mem_nil)
theorem wsL_law_x0 : ∀ w ∈ (vx_atS RX8 360 "java/lang/IndexOutOfBoundsException" ["java/lang/RuntimeException", "java/lang/Exception"]).filter goodWord, w ∈ lw_tbl := by decide +kernel
theorem wsL_law_x1 : ∀ w ∈ (vx_atS RX8 367 "java/lang/IllegalArgumentException" ["java/lang/RuntimeException", "java/lang/Exception"]).filter goodWord, w ∈ lw_tbl := by decide +kernel
theorem wsL_law_x2 : ∀ w ∈ (vx_atS RX8 372 "java/lang/IllegalStateException" ["java/lang/RuntimeException", "java/lang/Exception"]).filter goodWord, w ∈ lw_tbl := by decide +kernel
theorem wsL_law_in : ∀ w ∈ wsL_law, w ∈ lw_tbl := fun w h => (List.mem_append.mp h).elim (fun h => (List.mem_append.mp h).elim (fun h => (List.mem_append.mp h).elim (fun h => wsL_law_in0 w h) (fun h => wsL_law_x0 w h)) (fun h => wsL_law_x1 w h)) (fun h => wsL_law_x2 w h)
theorem nW_tbl : ∀ w ∈ nW, w ∈ lw_tbl := by decide +kernel
theorem exB_tbl : ∀ w ∈ exB, w ∈ lw_tbl := by decide +kernel
