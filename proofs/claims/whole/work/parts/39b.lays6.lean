/-! THE REFERENCE: all boxes, the walk -/
section MA
variable {G : Gx} {l : Launch} {S : Sh} {n : Nat} {mu T Z : Mem} {la : Lam} {r : Nat}
set_option maxRecDepth 20000 in
theorem ggX9_lays_X9_queues : GoodIn wsX9_lays wsX9_queues := goodIn_r _ [13, 1, 2, 14, 15, 16, 12, 17, 18, 19, 20, 21, 22, 23, 24, 25, 26, 27, 28, 29, 30, 31, 32, 33, 34, 35, 36, 37, 69, 70, 71, 72, 73, 74, 75, 76, 77, 78, 79, 80, 81, 82, 83, 84, 85, 86, 87, 88, 89, 90, 91, 92] (by decide +kernel) (by decide +kernel)
set_option maxRecDepth 20000 in
theorem gX9_lays_X9_queues : GoodIn wsX9_lays (wsV RX9 118 RX9 yX9_queues wsX9_queues) := goodIn_app (goodIn_of _ (by decide +kernel)) ggX9_lays_X9_queues
set_option maxRecDepth 20000 in
theorem ggX9_lays_X9_isSplit : GoodIn wsX9_lays wsX9_isSplit := goodIn_r _ [29, 18, 19, 20, 12, 21, 22, 69, 70, 71, 72, 73, 74, 75, 76, 77, 78, 79, 80, 81, 82, 83, 84, 85, 86, 87, 88, 89, 90, 91, 92] (by decide +kernel) (by decide +kernel)
set_option maxRecDepth 20000 in
theorem gX9_lays_X9_isSplit : GoodIn wsX9_lays (wsV RX9 98 RX9 yX9_isSplit wsX9_isSplit) := goodIn_app (goodIn_of _ (by decide +kernel)) ggX9_lays_X9_isSplit
set_option maxRecDepth 20000 in
theorem ggX9_lays_X9_leastOfSplit : GoodIn wsX9_lays wsX9_leastOfSplit := goodIn_r _ [41, 42, 43, 30, 31, 32, 12, 33, 18, 19, 20, 21, 22, 23, 24, 25, 34, 35, 36, 37, 69, 70, 71, 72, 73, 74, 75, 76, 77, 78, 79, 80, 81, 82, 83, 84, 85, 86, 87, 88, 89, 90, 91, 92] (by decide +kernel) (by decide +kernel)
set_option maxRecDepth 20000 in
theorem gX9_lays_X9_leastOfSplit : GoodIn wsX9_lays (wsV RX9 121 RX9 yX9_leastOfSplit wsX9_leastOfSplit) := goodIn_app (goodIn_of _ (by decide +kernel)) ggX9_lays_X9_leastOfSplit
set_option maxRecDepth 20000 in
theorem ggX9_lays_X9_leastOfGroup : GoodIn wsX9_lays wsX9_leastOfGroup := goodIn_r _ [47, 22, 42, 43, 48, 49, 50, 12, 51, 69, 70, 71, 72, 73, 74, 75, 76, 77, 78, 79, 80, 81, 82, 83, 84, 85, 86, 87, 88, 89, 90, 91, 92] (by decide +kernel) (by decide +kernel)
set_option maxRecDepth 20000 in
theorem gX9_lays_X9_leastOfGroup : GoodIn wsX9_lays (wsV RX9 125 RX9 yX9_leastOfGroup wsX9_leastOfGroup) := goodIn_app (goodIn_of _ (by decide +kernel)) ggX9_lays_X9_leastOfGroup
set_option maxRecDepth 20000 in
theorem ggX9_lays_X9_of : GoodIn wsX9_lays wsX9_of := goodIn_r _ [21, 22, 69, 70, 71, 72, 73, 74, 75, 76, 77, 78, 79, 80, 81, 82, 83, 84, 85, 86, 87, 88, 89, 90, 91, 92] (by decide +kernel) (by decide +kernel)
set_option maxRecDepth 20000 in
theorem gX9_lays_X9_of : GoodIn wsX9_lays (wsV RX9 77 RX9 yX9_of wsX9_of) := goodIn_app (goodIn_of _ (by decide +kernel)) ggX9_lays_X9_of
set_option maxRecDepth 20000 in
theorem ggX9_lays_X9_shares : GoodIn wsX9_lays wsX9_shares := goodIn_r _ [55, 7, 8, 30, 31, 32, 12, 33, 18, 19, 20, 21, 22, 23, 24, 25, 56, 57, 58, 59, 42, 43, 60, 61, 62, 63, 64, 34, 35, 36, 37, 65, 66, 67, 68, 69, 70, 71, 72, 73, 74, 75, 76, 77, 78, 79, 80, 81, 82, 83, 84, 85, 86, 87, 88, 89, 90, 91, 92] (by decide +kernel) (by decide +kernel)
set_option maxRecDepth 20000 in
theorem gX9_lays_X9_shares : GoodIn wsX9_lays (wsV RX9 128 RX9 yX9_shares wsX9_shares) := goodIn_app (goodIn_of _ (by decide +kernel)) ggX9_lays_X9_shares
set_option maxRecDepth 20000 in
theorem ggX9_lays_X9_children : GoodIn wsX9_lays wsX9_children := goodIn_r _ [33, 18, 19, 20, 12, 21, 22, 23, 24, 25, 69, 70, 71, 72, 73, 74, 75, 76, 77, 78, 79, 80, 81, 82, 83, 84, 85, 86, 87, 88, 89, 90, 91, 92] (by decide +kernel) (by decide +kernel)
set_option maxRecDepth 20000 in
theorem gX9_lays_X9_children : GoodIn wsX9_lays (wsV RX9 102 RX9 yX9_children wsX9_children) := goodIn_app (goodIn_of _ (by decide +kernel)) ggX9_lays_X9_children
set_option maxRecDepth 20000 in
theorem ggX9_lays_X9_child : GoodIn wsX9_lays wsX9_child := goodIn_r _ [37, 18, 19, 20, 12, 21, 22, 23, 24, 25, 69, 70, 71, 72, 73, 74, 75, 76, 77, 78, 79, 80, 81, 82, 83, 84, 85, 86, 87, 88, 89, 90, 91, 92] (by decide +kernel) (by decide +kernel)
set_option maxRecDepth 20000 in
theorem gX9_lays_X9_child : GoodIn wsX9_lays (wsV RX9 105 RX9 yX9_child wsX9_child) := goodIn_app (goodIn_of _ (by decide +kernel)) ggX9_lays_X9_child
theorem dX9_lays_0 : decode cX9_lays 0 = .ok (.aload_n 0, 1) := by decide +kernel
theorem dX9_lays_1 : decode cX9_lays 1 = .ok (.invokevirtual 118, 3) := by decide +kernel
theorem dX9_lays_4 : decode cX9_lays 4 = .ok (.aload_n 0, 1) := by decide +kernel
theorem dX9_lays_5 : decode cX9_lays 5 = .ok (.getfield 91, 3) := by decide +kernel
theorem dX9_lays_8 : decode cX9_lays 8 = .ok (.iconst 1, 1) := by decide +kernel
theorem dX9_lays_9 : decode cX9_lays 9 = .ok (.isub, 1) := by decide +kernel
theorem dX9_lays_10 : decode cX9_lays 10 = .ok (.istore_n 3, 1) := by decide +kernel
theorem dX9_lays_11 : decode cX9_lays 11 = .ok (.iload_n 3, 1) := by decide +kernel
theorem dX9_lays_12 : decode cX9_lays 12 = .ok (.ifCond .lt 45, 3) := by decide +kernel
theorem dX9_lays_15 : decode cX9_lays 15 = .ok (.aload_n 0, 1) := by decide +kernel
theorem dX9_lays_16 : decode cX9_lays 16 = .ok (.aload_n 0, 1) := by decide +kernel
theorem dX9_lays_17 : decode cX9_lays 17 = .ok (.getfield 25, 3) := by decide +kernel
theorem dX9_lays_20 : decode cX9_lays 20 = .ok (.iload_n 3, 1) := by decide +kernel
theorem dX9_lays_21 : decode cX9_lays 21 = .ok (.iaload, 1) := by decide +kernel
theorem dX9_lays_22 : decode cX9_lays 22 = .ok (.invokevirtual 98, 3) := by decide +kernel
theorem dX9_lays_25 : decode cX9_lays 25 = .ok (.ifCond .eq 16, 3) := by decide +kernel
theorem dX9_lays_28 : decode cX9_lays 28 = .ok (.aload_n 0, 1) := by decide +kernel
theorem dX9_lays_29 : decode cX9_lays 29 = .ok (.aload_n 0, 1) := by decide +kernel
theorem dX9_lays_30 : decode cX9_lays 30 = .ok (.getfield 25, 3) := by decide +kernel
theorem dX9_lays_33 : decode cX9_lays 33 = .ok (.iload_n 3, 1) := by decide +kernel
theorem dX9_lays_34 : decode cX9_lays 34 = .ok (.iaload, 1) := by decide +kernel
theorem dX9_lays_35 : decode cX9_lays 35 = .ok (.invokevirtual 121, 3) := by decide +kernel
theorem dX9_lays_38 : decode cX9_lays 38 = .ok (.goto 13, 3) := by decide +kernel
theorem dX9_lays_41 : decode cX9_lays 41 = .ok (.aload_n 0, 1) := by decide +kernel
theorem dX9_lays_42 : decode cX9_lays 42 = .ok (.aload_n 0, 1) := by decide +kernel
theorem dX9_lays_43 : decode cX9_lays 43 = .ok (.getfield 25, 3) := by decide +kernel
theorem dX9_lays_46 : decode cX9_lays 46 = .ok (.iload_n 3, 1) := by decide +kernel
theorem dX9_lays_47 : decode cX9_lays 47 = .ok (.iaload, 1) := by decide +kernel
theorem dX9_lays_48 : decode cX9_lays 48 = .ok (.invokevirtual 125, 3) := by decide +kernel
theorem dX9_lays_51 : decode cX9_lays 51 = .ok (.iinc 3 (-1), 3) := by decide +kernel
theorem dX9_lays_54 : decode cX9_lays 54 = .ok (.goto (-43), 3) := by decide +kernel
theorem dX9_lays_57 : decode cX9_lays 57 = .ok (.aload_n 0, 1) := by decide +kernel
theorem dX9_lays_58 : decode cX9_lays 58 = .ok (.getfield 91, 3) := by decide +kernel
theorem dX9_lays_61 : decode cX9_lays 61 = .ok (.ifCond .le 38, 3) := by decide +kernel
theorem dX9_lays_64 : decode cX9_lays 64 = .ok (.aload_n 0, 1) := by decide +kernel
theorem dX9_lays_65 : decode cX9_lays 65 = .ok (.getfield 25, 3) := by decide +kernel
theorem dX9_lays_68 : decode cX9_lays 68 = .ok (.iconst 0, 1) := by decide +kernel
theorem dX9_lays_69 : decode cX9_lays 69 = .ok (.iaload, 1) := by decide +kernel
theorem dX9_lays_70 : decode cX9_lays 70 = .ok (.istore_n 3, 1) := by decide +kernel
theorem dX9_lays_71 : decode cX9_lays 71 = .ok (.aload_n 0, 1) := by decide +kernel
theorem dX9_lays_72 : decode cX9_lays 72 = .ok (.getfield 34, 3) := by decide +kernel
theorem dX9_lays_75 : decode cX9_lays 75 = .ok (.iload_n 3, 1) := by decide +kernel
theorem dX9_lays_76 : decode cX9_lays 76 = .ok (.iconst 0, 1) := by decide +kernel
theorem dX9_lays_77 : decode cX9_lays 77 = .ok (.iastore, 1) := by decide +kernel
theorem dX9_lays_78 : decode cX9_lays 78 = .ok (.aload_n 0, 1) := by decide +kernel
theorem dX9_lays_79 : decode cX9_lays 79 = .ok (.getfield 37, 3) := by decide +kernel
theorem dX9_lays_82 : decode cX9_lays 82 = .ok (.iload_n 3, 1) := by decide +kernel
theorem dX9_lays_83 : decode cX9_lays 83 = .ok (.iconst 0, 1) := by decide +kernel
theorem dX9_lays_84 : decode cX9_lays 84 = .ok (.iastore, 1) := by decide +kernel
theorem dX9_lays_85 : decode cX9_lays 85 = .ok (.aload_n 0, 1) := by decide +kernel
theorem dX9_lays_86 : decode cX9_lays 86 = .ok (.getfield 40, 3) := by decide +kernel
theorem dX9_lays_89 : decode cX9_lays 89 = .ok (.iload_n 3, 1) := by decide +kernel
theorem dX9_lays_90 : decode cX9_lays 90 = .ok (.iload_n 1, 1) := by decide +kernel
theorem dX9_lays_91 : decode cX9_lays 91 = .ok (.iastore, 1) := by decide +kernel
theorem dX9_lays_92 : decode cX9_lays 92 = .ok (.aload_n 0, 1) := by decide +kernel
theorem dX9_lays_93 : decode cX9_lays 93 = .ok (.getfield 43, 3) := by decide +kernel
theorem dX9_lays_96 : decode cX9_lays 96 = .ok (.iload_n 3, 1) := by decide +kernel
theorem dX9_lays_97 : decode cX9_lays 97 = .ok (.iload_n 2, 1) := by decide +kernel
theorem dX9_lays_98 : decode cX9_lays 98 = .ok (.iastore, 1) := by decide +kernel
theorem dX9_lays_99 : decode cX9_lays 99 = .ok (.iconst 0, 1) := by decide +kernel
theorem dX9_lays_100 : decode cX9_lays 100 = .ok (.istore_n 3, 1) := by decide +kernel
theorem dX9_lays_101 : decode cX9_lays 101 = .ok (.iload_n 3, 1) := by decide +kernel
theorem dX9_lays_102 : decode cX9_lays 102 = .ok (.aload_n 0, 1) := by decide +kernel
theorem dX9_lays_103 : decode cX9_lays 103 = .ok (.getfield 91, 3) := by decide +kernel
theorem dX9_lays_106 : decode cX9_lays 106 = .ok (.if_icmp .ge 241, 3) := by decide +kernel
theorem dX9_lays_109 : decode cX9_lays 109 = .ok (.aload_n 0, 1) := by decide +kernel
theorem dX9_lays_110 : decode cX9_lays 110 = .ok (.getfield 25, 3) := by decide +kernel
theorem dX9_lays_113 : decode cX9_lays 113 = .ok (.iload_n 3, 1) := by decide +kernel
theorem dX9_lays_114 : decode cX9_lays 114 = .ok (.iaload, 1) := by decide +kernel
theorem dX9_lays_115 : decode cX9_lays 115 = .ok (.istore 4, 2) := by decide +kernel
theorem dX9_lays_117 : decode cX9_lays 117 = .ok (.aload_n 0, 1) := by decide +kernel
theorem dX9_lays_118 : decode cX9_lays 118 = .ok (.getfield 46, 3) := by decide +kernel
theorem dX9_lays_121 : decode cX9_lays 121 = .ok (.iload 4, 2) := by decide +kernel
theorem dX9_lays_123 : decode cX9_lays 123 = .ok (.iconst 0, 1) := by decide +kernel
theorem dX9_lays_124 : decode cX9_lays 124 = .ok (.iastore, 1) := by decide +kernel
theorem dX9_lays_125 : decode cX9_lays 125 = .ok (.aload_n 0, 1) := by decide +kernel
theorem dX9_lays_126 : decode cX9_lays 126 = .ok (.iload 4, 2) := by decide +kernel
theorem dX9_lays_128 : decode cX9_lays 128 = .ok (.invokevirtual 98, 3) := by decide +kernel
theorem dX9_lays_131 : decode cX9_lays 131 = .ok (.ifCond .eq 210, 3) := by decide +kernel
theorem dX9_lays_134 : decode cX9_lays 134 = .ok (.aload_n 0, 1) := by decide +kernel
theorem dX9_lays_135 : decode cX9_lays 135 = .ok (.iload 4, 2) := by decide +kernel
theorem dX9_lays_137 : decode cX9_lays 137 = .ok (.iconst 0, 1) := by decide +kernel
theorem dX9_lays_138 : decode cX9_lays 138 = .ok (.invokevirtual 77, 3) := by decide +kernel
theorem dX9_lays_141 : decode cX9_lays 141 = .ok (.iconst 2, 1) := by decide +kernel
theorem dX9_lays_142 : decode cX9_lays 142 = .ok (.if_icmp .ne 7, 3) := by decide +kernel
theorem dX9_lays_145 : decode cX9_lays 145 = .ok (.iconst 1, 1) := by decide +kernel
theorem dX9_lays_146 : decode cX9_lays 146 = .ok (.goto 4, 3) := by decide +kernel
theorem dX9_lays_149 : decode cX9_lays 149 = .ok (.iconst 0, 1) := by decide +kernel
theorem dX9_lays_150 : decode cX9_lays 150 = .ok (.istore 5, 2) := by decide +kernel
theorem dX9_lays_152 : decode cX9_lays 152 = .ok (.aload_n 0, 1) := by decide +kernel
theorem dX9_lays_153 : decode cX9_lays 153 = .ok (.iload 4, 2) := by decide +kernel
theorem dX9_lays_155 : decode cX9_lays 155 = .ok (.iload 5, 2) := by decide +kernel
theorem dX9_lays_157 : decode cX9_lays 157 = .ok (.ifCond .eq 13, 3) := by decide +kernel
theorem dX9_lays_160 : decode cX9_lays 160 = .ok (.aload_n 0, 1) := by decide +kernel
theorem dX9_lays_161 : decode cX9_lays 161 = .ok (.getfield 40, 3) := by decide +kernel
theorem dX9_lays_164 : decode cX9_lays 164 = .ok (.iload 4, 2) := by decide +kernel
theorem dX9_lays_166 : decode cX9_lays 166 = .ok (.iaload, 1) := by decide +kernel
theorem dX9_lays_167 : decode cX9_lays 167 = .ok (.goto 10, 3) := by decide +kernel
theorem dX9_lays_170 : decode cX9_lays 170 = .ok (.aload_n 0, 1) := by decide +kernel
theorem dX9_lays_171 : decode cX9_lays 171 = .ok (.getfield 43, 3) := by decide +kernel
theorem dX9_lays_174 : decode cX9_lays 174 = .ok (.iload 4, 2) := by decide +kernel
theorem dX9_lays_176 : decode cX9_lays 176 = .ok (.iaload, 1) := by decide +kernel
theorem dX9_lays_177 : decode cX9_lays 177 = .ok (.invokevirtual 128, 3) := by decide +kernel
theorem dX9_lays_180 : decode cX9_lays 180 = .ok (.iconst 0, 1) := by decide +kernel
theorem dX9_lays_181 : decode cX9_lays 181 = .ok (.istore 6, 2) := by decide +kernel
theorem dX9_lays_183 : decode cX9_lays 183 = .ok (.aload_n 0, 1) := by decide +kernel
theorem dX9_lays_184 : decode cX9_lays 184 = .ok (.iload 4, 2) := by decide +kernel
theorem dX9_lays_186 : decode cX9_lays 186 = .ok (.invokevirtual 102, 3) := by decide +kernel
theorem dX9_lays_189 : decode cX9_lays 189 = .ok (.istore 7, 2) := by decide +kernel
theorem dX9_lays_191 : decode cX9_lays 191 = .ok (.iconst 0, 1) := by decide +kernel
theorem dX9_lays_192 : decode cX9_lays 192 = .ok (.istore 8, 2) := by decide +kernel
theorem dX9_lays_194 : decode cX9_lays 194 = .ok (.iload 8, 2) := by decide +kernel
theorem dX9_lays_196 : decode cX9_lays 196 = .ok (.iload 7, 2) := by decide +kernel
theorem dX9_lays_198 : decode cX9_lays 198 = .ok (.if_icmp .ge 143, 3) := by decide +kernel
theorem dX9_lays_201 : decode cX9_lays 201 = .ok (.aload_n 0, 1) := by decide +kernel
theorem dX9_lays_202 : decode cX9_lays 202 = .ok (.iload 4, 2) := by decide +kernel
theorem dX9_lays_204 : decode cX9_lays 204 = .ok (.iload 8, 2) := by decide +kernel
theorem dX9_lays_206 : decode cX9_lays 206 = .ok (.invokevirtual 105, 3) := by decide +kernel
theorem dX9_lays_209 : decode cX9_lays 209 = .ok (.istore 9, 2) := by decide +kernel
theorem dX9_lays_211 : decode cX9_lays 211 = .ok (.aload_n 0, 1) := by decide +kernel
theorem dX9_lays_212 : decode cX9_lays 212 = .ok (.getfield 34, 3) := by decide +kernel
theorem dX9_lays_215 : decode cX9_lays 215 = .ok (.iload 9, 2) := by decide +kernel
theorem dX9_lays_217 : decode cX9_lays 217 = .ok (.aload_n 0, 1) := by decide +kernel
theorem dX9_lays_218 : decode cX9_lays 218 = .ok (.getfield 34, 3) := by decide +kernel
theorem dX9_lays_221 : decode cX9_lays 221 = .ok (.iload 4, 2) := by decide +kernel
theorem dX9_lays_223 : decode cX9_lays 223 = .ok (.iaload, 1) := by decide +kernel
theorem dX9_lays_224 : decode cX9_lays 224 = .ok (.iload 5, 2) := by decide +kernel
theorem dX9_lays_226 : decode cX9_lays 226 = .ok (.ifCond .eq 8, 3) := by decide +kernel
theorem dX9_lays_229 : decode cX9_lays 229 = .ok (.iload 6, 2) := by decide +kernel
theorem dX9_lays_231 : decode cX9_lays 231 = .ok (.goto 4, 3) := by decide +kernel
theorem dX9_lays_234 : decode cX9_lays 234 = .ok (.iconst 0, 1) := by decide +kernel
theorem dX9_lays_235 : decode cX9_lays 235 = .ok (.iadd, 1) := by decide +kernel
theorem dX9_lays_236 : decode cX9_lays 236 = .ok (.iastore, 1) := by decide +kernel
theorem dX9_lays_237 : decode cX9_lays 237 = .ok (.aload_n 0, 1) := by decide +kernel
theorem dX9_lays_238 : decode cX9_lays 238 = .ok (.getfield 37, 3) := by decide +kernel
theorem dX9_lays_241 : decode cX9_lays 241 = .ok (.iload 9, 2) := by decide +kernel
theorem dX9_lays_243 : decode cX9_lays 243 = .ok (.aload_n 0, 1) := by decide +kernel
theorem dX9_lays_244 : decode cX9_lays 244 = .ok (.getfield 37, 3) := by decide +kernel
theorem dX9_lays_247 : decode cX9_lays 247 = .ok (.iload 4, 2) := by decide +kernel
theorem dX9_lays_249 : decode cX9_lays 249 = .ok (.iaload, 1) := by decide +kernel
theorem dX9_lays_250 : decode cX9_lays 250 = .ok (.iload 5, 2) := by decide +kernel
theorem dX9_lays_252 : decode cX9_lays 252 = .ok (.ifCond .eq 7, 3) := by decide +kernel
theorem dX9_lays_255 : decode cX9_lays 255 = .ok (.iconst 0, 1) := by decide +kernel
theorem dX9_lays_256 : decode cX9_lays 256 = .ok (.goto 5, 3) := by decide +kernel
theorem dX9_lays_259 : decode cX9_lays 259 = .ok (.iload 6, 2) := by decide +kernel
theorem dX9_lays_261 : decode cX9_lays 261 = .ok (.iadd, 1) := by decide +kernel
theorem dX9_lays_262 : decode cX9_lays 262 = .ok (.iastore, 1) := by decide +kernel
theorem dX9_lays_263 : decode cX9_lays 263 = .ok (.aload_n 0, 1) := by decide +kernel
theorem dX9_lays_264 : decode cX9_lays 264 = .ok (.getfield 40, 3) := by decide +kernel
theorem dX9_lays_267 : decode cX9_lays 267 = .ok (.iload 9, 2) := by decide +kernel
theorem dX9_lays_269 : decode cX9_lays 269 = .ok (.iload 5, 2) := by decide +kernel
theorem dX9_lays_271 : decode cX9_lays 271 = .ok (.ifCond .eq 13, 3) := by decide +kernel
theorem dX9_lays_274 : decode cX9_lays 274 = .ok (.aload_n 0, 1) := by decide +kernel
theorem dX9_lays_275 : decode cX9_lays 275 = .ok (.getfield 49, 3) := by decide +kernel
theorem dX9_lays_278 : decode cX9_lays 278 = .ok (.iload 8, 2) := by decide +kernel
theorem dX9_lays_280 : decode cX9_lays 280 = .ok (.iaload, 1) := by decide +kernel
theorem dX9_lays_281 : decode cX9_lays 281 = .ok (.goto 10, 3) := by decide +kernel
theorem dX9_lays_284 : decode cX9_lays 284 = .ok (.aload_n 0, 1) := by decide +kernel
theorem dX9_lays_285 : decode cX9_lays 285 = .ok (.getfield 40, 3) := by decide +kernel
theorem dX9_lays_288 : decode cX9_lays 288 = .ok (.iload 4, 2) := by decide +kernel
theorem dX9_lays_290 : decode cX9_lays 290 = .ok (.iaload, 1) := by decide +kernel
theorem dX9_lays_291 : decode cX9_lays 291 = .ok (.iastore, 1) := by decide +kernel
theorem dX9_lays_292 : decode cX9_lays 292 = .ok (.aload_n 0, 1) := by decide +kernel
theorem dX9_lays_293 : decode cX9_lays 293 = .ok (.getfield 43, 3) := by decide +kernel
theorem dX9_lays_296 : decode cX9_lays 296 = .ok (.iload 9, 2) := by decide +kernel
theorem dX9_lays_298 : decode cX9_lays 298 = .ok (.iload 5, 2) := by decide +kernel
theorem dX9_lays_300 : decode cX9_lays 300 = .ok (.ifCond .eq 13, 3) := by decide +kernel
theorem dX9_lays_303 : decode cX9_lays 303 = .ok (.aload_n 0, 1) := by decide +kernel
theorem dX9_lays_304 : decode cX9_lays 304 = .ok (.getfield 43, 3) := by decide +kernel
theorem dX9_lays_307 : decode cX9_lays 307 = .ok (.iload 4, 2) := by decide +kernel
theorem dX9_lays_309 : decode cX9_lays 309 = .ok (.iaload, 1) := by decide +kernel
theorem dX9_lays_310 : decode cX9_lays 310 = .ok (.goto 10, 3) := by decide +kernel
theorem dX9_lays_313 : decode cX9_lays 313 = .ok (.aload_n 0, 1) := by decide +kernel
theorem dX9_lays_314 : decode cX9_lays 314 = .ok (.getfield 49, 3) := by decide +kernel
theorem dX9_lays_317 : decode cX9_lays 317 = .ok (.iload 8, 2) := by decide +kernel
theorem dX9_lays_319 : decode cX9_lays 319 = .ok (.iaload, 1) := by decide +kernel
theorem dX9_lays_320 : decode cX9_lays 320 = .ok (.iastore, 1) := by decide +kernel
theorem dX9_lays_321 : decode cX9_lays 321 = .ok (.iload 6, 2) := by decide +kernel
theorem dX9_lays_323 : decode cX9_lays 323 = .ok (.aload_n 0, 1) := by decide +kernel
theorem dX9_lays_324 : decode cX9_lays 324 = .ok (.getfield 49, 3) := by decide +kernel
theorem dX9_lays_327 : decode cX9_lays 327 = .ok (.iload 8, 2) := by decide +kernel
theorem dX9_lays_329 : decode cX9_lays 329 = .ok (.iaload, 1) := by decide +kernel
theorem dX9_lays_330 : decode cX9_lays 330 = .ok (.iconst 1, 1) := by decide +kernel
theorem dX9_lays_331 : decode cX9_lays 331 = .ok (.iadd, 1) := by decide +kernel
theorem dX9_lays_332 : decode cX9_lays 332 = .ok (.iadd, 1) := by decide +kernel
theorem dX9_lays_333 : decode cX9_lays 333 = .ok (.istore 6, 2) := by decide +kernel
theorem dX9_lays_335 : decode cX9_lays 335 = .ok (.iinc 8 1, 3) := by decide +kernel
theorem dX9_lays_338 : decode cX9_lays 338 = .ok (.goto (-144), 3) := by decide +kernel
theorem dX9_lays_341 : decode cX9_lays 341 = .ok (.iinc 3 1, 3) := by decide +kernel
theorem dX9_lays_344 : decode cX9_lays 344 = .ok (.goto (-243), 3) := by decide +kernel
theorem dX9_lays_347 : decode cX9_lays 347 = .ok (.iconst 0, 1) := by decide +kernel
theorem dX9_lays_348 : decode cX9_lays 348 = .ok (.istore_n 3, 1) := by decide +kernel
theorem dX9_lays_349 : decode cX9_lays 349 = .ok (.iload_n 3, 1) := by decide +kernel
theorem dX9_lays_350 : decode cX9_lays 350 = .ok (.bipush 32, 2) := by decide +kernel
theorem dX9_lays_352 : decode cX9_lays 352 = .ok (.if_icmp .ge 70, 3) := by decide +kernel
theorem dX9_lays_355 : decode cX9_lays 355 = .ok (.aload_n 0, 1) := by decide +kernel
theorem dX9_lays_356 : decode cX9_lays 356 = .ok (.iload_n 3, 1) := by decide +kernel
theorem dX9_lays_357 : decode cX9_lays 357 = .ok (.iconst 0, 1) := by decide +kernel
theorem dX9_lays_358 : decode cX9_lays 358 = .ok (.invokevirtual 77, 3) := by decide +kernel
theorem dX9_lays_361 : decode cX9_lays 361 = .ok (.iconst 4, 1) := by decide +kernel
theorem dX9_lays_362 : decode cX9_lays 362 = .ok (.if_icmp .ne 54, 3) := by decide +kernel
theorem dX9_lays_365 : decode cX9_lays 365 = .ok (.aload_n 0, 1) := by decide +kernel
theorem dX9_lays_366 : decode cX9_lays 366 = .ok (.getfield 34, 3) := by decide +kernel
theorem dX9_lays_369 : decode cX9_lays 369 = .ok (.iload_n 3, 1) := by decide +kernel
theorem dX9_lays_370 : decode cX9_lays 370 = .ok (.aload_n 0, 1) := by decide +kernel
theorem dX9_lays_371 : decode cX9_lays 371 = .ok (.iload_n 3, 1) := by decide +kernel
theorem dX9_lays_372 : decode cX9_lays 372 = .ok (.iconst 5, 1) := by decide +kernel
theorem dX9_lays_373 : decode cX9_lays 373 = .ok (.invokevirtual 77, 3) := by decide +kernel
theorem dX9_lays_376 : decode cX9_lays 376 = .ok (.iastore, 1) := by decide +kernel
theorem dX9_lays_377 : decode cX9_lays 377 = .ok (.aload_n 0, 1) := by decide +kernel
theorem dX9_lays_378 : decode cX9_lays 378 = .ok (.getfield 37, 3) := by decide +kernel
theorem dX9_lays_381 : decode cX9_lays 381 = .ok (.iload_n 3, 1) := by decide +kernel
theorem dX9_lays_382 : decode cX9_lays 382 = .ok (.aload_n 0, 1) := by decide +kernel
theorem dX9_lays_383 : decode cX9_lays 383 = .ok (.iload_n 3, 1) := by decide +kernel
theorem dX9_lays_384 : decode cX9_lays 384 = .ok (.bipush 6, 2) := by decide +kernel
theorem dX9_lays_386 : decode cX9_lays 386 = .ok (.invokevirtual 77, 3) := by decide +kernel
theorem dX9_lays_389 : decode cX9_lays 389 = .ok (.iastore, 1) := by decide +kernel
theorem dX9_lays_390 : decode cX9_lays 390 = .ok (.aload_n 0, 1) := by decide +kernel
theorem dX9_lays_391 : decode cX9_lays 391 = .ok (.getfield 40, 3) := by decide +kernel
theorem dX9_lays_394 : decode cX9_lays 394 = .ok (.iload_n 3, 1) := by decide +kernel
theorem dX9_lays_395 : decode cX9_lays 395 = .ok (.aload_n 0, 1) := by decide +kernel
theorem dX9_lays_396 : decode cX9_lays 396 = .ok (.iload_n 3, 1) := by decide +kernel
theorem dX9_lays_397 : decode cX9_lays 397 = .ok (.bipush 7, 2) := by decide +kernel
theorem dX9_lays_399 : decode cX9_lays 399 = .ok (.invokevirtual 77, 3) := by decide +kernel
theorem dX9_lays_402 : decode cX9_lays 402 = .ok (.iastore, 1) := by decide +kernel
theorem dX9_lays_403 : decode cX9_lays 403 = .ok (.aload_n 0, 1) := by decide +kernel
theorem dX9_lays_404 : decode cX9_lays 404 = .ok (.getfield 43, 3) := by decide +kernel
theorem dX9_lays_407 : decode cX9_lays 407 = .ok (.iload_n 3, 1) := by decide +kernel
theorem dX9_lays_408 : decode cX9_lays 408 = .ok (.aload_n 0, 1) := by decide +kernel
theorem dX9_lays_409 : decode cX9_lays 409 = .ok (.iload_n 3, 1) := by decide +kernel
theorem dX9_lays_410 : decode cX9_lays 410 = .ok (.bipush 8, 2) := by decide +kernel
theorem dX9_lays_412 : decode cX9_lays 412 = .ok (.invokevirtual 77, 3) := by decide +kernel
theorem dX9_lays_415 : decode cX9_lays 415 = .ok (.iastore, 1) := by decide +kernel
theorem dX9_lays_416 : decode cX9_lays 416 = .ok (.iinc 3 1, 3) := by decide +kernel
theorem dX9_lays_419 : decode cX9_lays 419 = .ok (.goto (-70), 3) := by decide +kernel
theorem dX9_lays_422 : decode cX9_lays 422 = .ok (.return_, 1) := by decide +kernel
theorem hin_X9_lays_X9 : ∀ w ∈ wsX90, w ∈ wsX9_lays := by decide +kernel
theorem lk_X9_lays_91 : Cond.fieldLink RX9 91 RX9 "queued" "I" ∈ wsX9_lays := by decide +kernel
theorem lk_X9_lays_25 : Cond.fieldLink RX9 25 RX9 "queue" "[I" ∈ wsX9_lays := by decide +kernel
theorem lk_X9_lays_34 : Cond.fieldLink RX9 34 RX9 "boxX" "[I" ∈ wsX9_lays := by decide +kernel
theorem lk_X9_lays_37 : Cond.fieldLink RX9 37 RX9 "boxY" "[I" ∈ wsX9_lays := by decide +kernel
theorem lk_X9_lays_40 : Cond.fieldLink RX9 40 RX9 "boxW" "[I" ∈ wsX9_lays := by decide +kernel
theorem lk_X9_lays_43 : Cond.fieldLink RX9 43 RX9 "boxH" "[I" ∈ wsX9_lays := by decide +kernel
theorem lk_X9_lays_46 : Cond.fieldLink RX9 46 RX9 "tight" "[I" ∈ wsX9_lays := by decide +kernel
theorem lk_X9_lays_49 : Cond.fieldLink RX9 49 RX9 "share" "[I" ∈ wsX9_lays := by decide +kernel
theorem m_lays (hG : GP G) (hM : MoS S r) (hR : R32 mu) (hRZ : R32Z Z) {N : Int} (hB : TB N T) (hN : N ≤ 1073740000) (hP : 0 ≤ mu (r + 1) 2 ∧ mu (r + 1) 2 ≤ 16) {q0 w h : Int} (hw : -2147483648 ≤ w ∧ w ≤ 2147483647) (hh : -2147483648 ≤ h ∧ h ≤ 2147483647) (hS : SO T) (hq : (quT T Z).1 ≤ 32) (hq0 : 0 ≤ (quT T Z).1) (hb : okB T (quT T Z).1.toNat 0 (la1 mu r T Z w h)) : Ct G l yX9_lays wsX9_lays 5 0 0 [.ref r, .int (I32 w), .int (I32 h)] S n (lyM mu r T q0 Z) la (Dt none S n (lyM mu r T (quT T Z).1 (laZ mu r T Z w h)) la) := by
  have o9 := hM.1
  have h14 := hM.2.2.2.2.2.2.2.1
  have h6 := quT_6 (Z := Z) hS
  have hR1 := quT_R (T := T) hRZ
  have hR2 := la1_R (r := r) (T := T) hR hRZ hw hh
  unfold laZ
  have ela : la1 mu r T Z w h = rtZ (quT T Z).1 (leG mu r T (quT T Z).1.toNat (quT T Z).2) w h := rfl
  generalize la1 mu r T Z w h = Z2 at hb hR2 ela ⊢
  refine Ct.ofV (cc := cX9_lays) (nL := 10) (ret := none) [some (.ref r), some (.int (I32 w)), some (.int (I32 h)), none, none, none, none, none, none, none] hG (by decide) rfl (Nat.le_of_ble_eq_true rfl) rfl ?_
  rintro X rfl rfl C hcl hsl E
  refine V_aload_n C dX9_lays_0 rfl ?_
  refine V_callVD (nA := 0) C dX9_lays_1 (m_queues C.gp hM hB (by omega) hS hq) gX9_lays_X9_queues rfl o9 rfl (by decide +kernel) rfl (by decide) (by decide) (Nat.le_of_ble_eq_true rfl) ⟨by omega, by omega⟩ rfl ?_
  generalize (quT T Z).2 = Z1 at h6 hR1 ela
  generalize (quT T Z).1 = q at h6 hq hq0 hb ela E
  have h62 : ∀ i, Z2 6 i = Z1 6 i := by
    intro i
    rw [ela]
    unfold rtZ
    split
    · unfold rbZ
      rw [up_a _ _ _ _ (by decide), up_a _ _ _ _ (by decide), up_a _ _ _ _ (by decide), up_a _ _ _ _ (by decide), leG_k _ _ _ (by decide) (by decide)]
    · rw [leG_k _ _ _ (by decide) (by decide)]
  have flo : ∀ (Y : Mem) (w4 w5 w6 w7 w8 w9 : Option Value), Y = bxG T q.toNat 0 Z2 → ∀ (d j : Nat), j + d = 32 → V X 349 [some (.ref r), some (.int (I32 w)), some (.int (I32 h)), some (.int (I32 (j : Int))), w4, w5, w6, w7, w8, w9] [] S n (lyM mu r T q (ftP T Y j)) la 0 0 := by
    intro Y w4 w5 w6 w7 w8 w9 eY d
    rw [← eY] at E
    induction d with
    | zero =>
      intro j h1
      have hj : j = 32 := by omega
      subst hj
      refine V_iload_n C dX9_lays_349 rfl ?_
      refine V_bipush C dX9_lays_350 (by decide +kernel) ?_
      refine V_icmp_ge C 422 dX9_lays_352 (by decide) (by omega) (by omega) (fun z352 => ?_) (fun z352 => ?_)
      · refine V_return C E dX9_lays_422 (by omega) (by omega) ?_
        exact Dt_rfl
      · exact absurd z352 (by first | omega | decide)
    | succ d ih =>
      intro j h1
      have h9 := ih (j + 1) (by omega)
      have b0 := hB.n 0 (by decide) (i := (j : Int)) (by omega)
      rw [show ((j + 1 : Nat) : Int) = (j : Int) + 1 from rfl] at h9
      refine V_iload_n C dX9_lays_349 rfl ?_
      refine V_bipush C dX9_lays_350 (by decide +kernel) ?_
      refine V_icmp_ge C 422 dX9_lays_352 (by decide) (by omega) (by omega) (fun z352 => ?_) (fun z352 => ?_)
      · exact absurd z352 (by first | omega | decide)
      · refine V_aload_n C dX9_lays_355 rfl ?_
        refine V_iload_n C dX9_lays_356 rfl ?_
        refine V_iconst C dX9_lays_357 ?_
        refine V_callVD (nA := 2) C dX9_lays_358 (m_of C.gp hM (by omega) 0 (by decide) rfl) gX9_lays_X9_of rfl o9 rfl (by decide +kernel) rfl (by decide) (by decide) (Nat.le_of_ble_eq_true rfl) ⟨by omega, by omega⟩ rfl ?_
        refine V_iconst C dX9_lays_361 ?_
        refine V_icmp_ne C 416 dX9_lays_362 (by decide) (by omega) (by omega) (fun z362 => ?_) (fun z362 => ?_)
        · refine V_iinc C dX9_lays_416 rfl rfl (by decide) ?_
          refine V_goto C 349 dX9_lays_419 (by decide) ?_
          first | (have hz := hyes; exact h9) | (rw [ftP_no (by assumption)] at h9 ; exact h9)
        · refine V_aload_n C dX9_lays_365 rfl ?_
          refine V_getR C 12 dX9_lays_366 o9 rfl hin_X9_lays_X9 (by decide) lk_X9_lays_34 rfl rfl ?_
          refine V_iload_n C dX9_lays_369 rfl ?_
          refine V_aload_n C dX9_lays_370 rfl ?_
          refine V_iload_n C dX9_lays_371 rfl ?_
          refine V_iconst C dX9_lays_372 ?_
          refine V_callVD (nA := 2) C dX9_lays_373 (m_of C.gp hM (by omega) 5 (by decide) rfl) gX9_lays_X9_of rfl o9 rfl (by decide +kernel) rfl (by decide) (by decide) (Nat.le_of_ble_eq_true rfl) ⟨by omega, by omega⟩ rfl ?_
          refine V_iastJ C dX9_lays_376 (hM.k ⟨by decide,by decide⟩) (by first | assumption | decide) (by omega) (zMu_k (by decide)) ?_
          refine V_aload_n C dX9_lays_377 rfl ?_
          refine V_getR C 13 dX9_lays_378 o9 rfl hin_X9_lays_X9 (by decide) lk_X9_lays_37 rfl rfl ?_
          refine V_iload_n C dX9_lays_381 rfl ?_
          refine V_aload_n C dX9_lays_382 rfl ?_
          refine V_iload_n C dX9_lays_383 rfl ?_
          refine V_bipush C dX9_lays_384 (by decide +kernel) ?_
          refine V_callVD (nA := 2) C dX9_lays_386 (m_of C.gp hM (by omega) 6 (by decide) rfl) gX9_lays_X9_of rfl o9 rfl (by decide +kernel) rfl (by decide) (by decide) (Nat.le_of_ble_eq_true rfl) ⟨by omega, by omega⟩ rfl ?_
          refine V_iastJ C dX9_lays_389 (hM.k ⟨by decide,by decide⟩) (by first | assumption | decide) (by omega) (zMu_k (by decide)) ?_
          refine V_aload_n C dX9_lays_390 rfl ?_
          refine V_getR C 14 dX9_lays_391 o9 rfl hin_X9_lays_X9 (by decide) lk_X9_lays_40 rfl rfl ?_
          refine V_iload_n C dX9_lays_394 rfl ?_
          refine V_aload_n C dX9_lays_395 rfl ?_
          refine V_iload_n C dX9_lays_396 rfl ?_
          refine V_bipush C dX9_lays_397 (by decide +kernel) ?_
          refine V_callVD (nA := 2) C dX9_lays_399 (m_of C.gp hM (by omega) 7 (by decide) rfl) gX9_lays_X9_of rfl o9 rfl (by decide +kernel) rfl (by decide) (by decide) (Nat.le_of_ble_eq_true rfl) ⟨by omega, by omega⟩ rfl ?_
          refine V_iastJ C dX9_lays_402 (hM.k ⟨by decide,by decide⟩) (by first | assumption | decide) (by omega) (zMu_k (by decide)) ?_
          refine V_aload_n C dX9_lays_403 rfl ?_
          refine V_getR C 15 dX9_lays_404 o9 rfl hin_X9_lays_X9 (by decide) lk_X9_lays_43 rfl rfl ?_
          refine V_iload_n C dX9_lays_407 rfl ?_
          refine V_aload_n C dX9_lays_408 rfl ?_
          refine V_iload_n C dX9_lays_409 rfl ?_
          refine V_bipush C dX9_lays_410 (by decide +kernel) ?_
          refine V_callVD (nA := 2) C dX9_lays_412 (m_of C.gp hM (by omega) 8 (by decide) rfl) gX9_lays_X9_of rfl o9 rfl (by decide +kernel) rfl (by decide) (by decide) (Nat.le_of_ble_eq_true rfl) ⟨by omega, by omega⟩ rfl ?_
          refine V_iastJ C dX9_lays_415 (hM.k ⟨by decide,by decide⟩) (by first | assumption | decide) (by omega) (zMu_k (by decide)) ?_
          rw [ftP_yes (by omega) (by assumption)]
          have hyes := True.intro
          refine V_iinc C dX9_lays_416 rfl rfl (by decide) ?_
          refine V_goto C 349 dX9_lays_419 (by decide) ?_
          first | (have hz := hyes; exact h9) | (rw [ftP_no (by assumption)] at h9 ; exact h9)
  have box : ∀ (d : Nat) (a : Int) (Y : Mem) (w4 w5 w6 w7 w8 w9 : Option Value), a + d = q → 0 ≤ a → R32Z Y → (∀ i, Y 6 i = Z1 6 i) → okB T d a Y → bxG T d a Y = bxG T q.toNat 0 Z2 → V X 101 [some (.ref r), some (.int (I32 w)), some (.int (I32 h)), some (.int (I32 a)), w4, w5, w6, w7, w8, w9] [] S n (lyM mu r T q Y) la 0 0 := by
    intro d
    induction d with
    | zero =>
      intro a Y w4 w5 w6 w7 w8 w9 h1 h2 hY h6Y ho h3
      have h8 := flo Y w4 w5 w6 w7 w8 w9 h3 32 0 (by omega)
      rw [show ((0 : Nat) : Int) = 0 from rfl, ftP_0] at h8
      refine V_iload_n C dX9_lays_101 rfl ?_
      refine V_aload_n C dX9_lays_102 rfl ?_
      refine V_getJ C 9 9 rfl dX9_lays_103 o9 rfl hin_X9_lays_X9 (by decide) lk_X9_lays_91 rfl rfl (zM_q) ?_
      refine V_icmp_ge C 347 dX9_lays_106 (by decide) (by omega) (by omega) (fun z1 => ?_) (fun z1 => ?_)
      · refine V_iconst C dX9_lays_347 ?_
        refine V_istore_n C dX9_lays_348 rfl (by decide) ?_
        exact h8
      · exact absurd z1 (by omega)
    | succ d ih =>
      intro a Y w4 w5 w6 w7 w8 w9 h1 h2 hY h6Y ho h3
      obtain ⟨ho1, ho2⟩ := ho
      rw [bxG] at h3
      have hx := h6 a (by omega)
      rw [← h6Y a] at hx
      have hYS := bxS_R (x := Y 6 a) hY ho1
      have h6S : ∀ i, bxS T Y (Y 6 a) 6 i = Z1 6 i := fun i => (bxS_6 T Y (Y 6 a) i).trans (h6Y i)
      have ih9 := fun w4 w5 w6 w7 w8 w9 => ih (a + 1) (bxS T Y (Y 6 a)) w4 w5 w6 w7 w8 w9 (by omega) (by omega) hYS h6S ho2 h3
      clear ih h3 ho2 h6S
      generalize ex : Y 6 a = x at hx hYS ih9 ho1
      have bsp := spT_b T x
      have b0 := hB.n 0 (by decide) hx
      unfold bxS at ih9 hYS
      refine V_iload_n C dX9_lays_101 rfl ?_
      refine V_aload_n C dX9_lays_102 rfl ?_
      refine V_getJ C 9 9 rfl dX9_lays_103 o9 rfl hin_X9_lays_X9 (by decide) lk_X9_lays_91 rfl rfl (zM_q) ?_
      refine V_icmp_ge C 347 dX9_lays_106 (by decide) (by omega) (by omega) (fun z1 => ?_) (fun z1 => ?_)
      · exact absurd z1 (by omega)
      · refine V_aload_n C dX9_lays_109 rfl ?_
        refine V_getR C 8 dX9_lays_110 o9 rfl hin_X9_lays_X9 (by decide) lk_X9_lays_25 rfl rfl ?_
        refine V_iload_n C dX9_lays_113 rfl ?_
        refine V_ialdJ C dX9_lays_114 (hM.k ⟨by decide,by decide⟩) (by first | assumption | decide) (by omega) ((zM_k (by decide)).trans ex) ?_
        refine V_istore C dX9_lays_115 rfl (by decide) ?_
        refine V_aload_n C dX9_lays_117 rfl ?_
        refine V_getR C 16 dX9_lays_118 o9 rfl hin_X9_lays_X9 (by decide) lk_X9_lays_46 rfl rfl ?_
        refine V_iload C dX9_lays_121 rfl ?_
        refine V_iconst C dX9_lays_123 ?_
        refine V_iastJ C dX9_lays_124 (hM.k ⟨by decide,by decide⟩) (by first | assumption | decide) (by omega) (zMu_k (by decide)) ?_
        refine V_aload_n C dX9_lays_125 rfl ?_
        refine V_iload C dX9_lays_126 rfl ?_
        refine V_callVD (nA := 1) C dX9_lays_128 (m_isSplit C.gp hM hB (by omega) hx) gX9_lays_X9_isSplit rfl o9 rfl (by decide +kernel) rfl (by decide) (by decide) (Nat.le_of_ble_eq_true rfl) ⟨by omega, by omega⟩ rfl ?_
        refine V_if_eq C 341 dX9_lays_131 (by decide) (by omega) (fun z2 => ?_) (fun z2 => ?_)
        · rw [if_neg (by omega)] at ih9
          refine V_iinc C dX9_lays_341 rfl rfl (by decide) ?_
          refine V_goto C 101 dX9_lays_344 (by decide) ?_
          exact ih9 _ _ _ _ _ _
        · have z3 : spT T x = 1 := by omega
          rw [if_pos z3] at ih9 hYS
          have ho1 := ho1 z3
          have hK := hS x hx z3
          have bk := kdT_b T x
          have hY0 : R32Z (up Y 13 x 0) := hY.upd 13 x (by omega)
          have hY1 := shZ_R hY0 ho1
          generalize up Y 13 x 0 = Y0 at hY0 hY1 ih9 hYS ho1
          have hbs : bsT T x = 0 ∨ bsT T x = 1 := by unfold bsT; split <;> omega
          have kids : ∀ (e : Nat) (k g : Int) (U : Mem) (w9 : Option Value), k + e = kdT T x → 0 ≤ k → R32Z U → bcG T x (bsT T x) e k g U = bcG T x (bsT T x) (kdT T x).toNat 0 0 (shZ T Y0 x (exF T Y0 x x)) → V X 194 [some (.ref r), some (.int (I32 w)), some (.int (I32 h)), some (.int (I32 a)), some (.int (I32 x)), some (.int (I32 (bsT T x))), some (.int (I32 g)), some (.int (I32 (kdT T x))), some (.int (I32 k)), w9] [] S n (lyM mu r T q U) la 0 0 := by
            intro e
            induction e with
            | zero =>
              intro k g U w9 k1 k2 hU k3
              rw [bcG] at k3
              rw [← k3] at ih9
              refine V_iload C dX9_lays_194 rfl ?_
              refine V_iload C dX9_lays_196 rfl ?_
              refine V_icmp_ge C 341 dX9_lays_198 (by decide) (by omega) (by omega) (fun z4 => ?_) (fun z4 => ?_)
              · refine V_iinc C dX9_lays_341 rfl rfl (by decide) ?_
                refine V_goto C 101 dX9_lays_344 (by decide) ?_
                exact ih9 _ _ _ _ _ _
              · exact absurd z4 (by omega)
            | succ e ihe =>
              intro k g U w9 k1 k2 hU k3
              rw [bcG] at k3
              have hc := hK.2 k (by omega)
              have hc2 := (chT_b T x k).2
              generalize ec : chT T x k = c at hc hc2 k3
              have hRs := bcD_R hU x c (bsT T x) g k
              have ihe := ihe (k + 1) (g + (bcD U x c (bsT T x) g k 14 k + 1)) (bcD U x c (bsT T x) g k) (some (.int (I32 c))) (by omega) (by omega) hRs.2.2.2 k3
              clear k3 ih9
              refine V_iload C dX9_lays_194 rfl ?_
              refine V_iload C dX9_lays_196 rfl ?_
              refine V_icmp_ge C 341 dX9_lays_198 (by decide) (by omega) (by omega) (fun z4 => ?_) (fun z4 => ?_)
              · exact absurd z4 (by omega)
              · refine V_aload_n C dX9_lays_201 rfl ?_
                refine V_iload C dX9_lays_202 rfl ?_
                refine V_iload C dX9_lays_204 rfl ?_
                refine V_callVD (nA := 2) C dX9_lays_206 (m_child C.gp hM hB (by omega) (by omega) (by omega)) gX9_lays_X9_child rfl o9 rfl (by decide +kernel) rfl (by decide) (by decide) (Nat.le_of_ble_eq_true rfl) ⟨by omega, by omega⟩ rfl ?_
                rw [ec]
                refine V_istore C dX9_lays_209 rfl (by decide) ?_
                refine V_aload_n C dX9_lays_211 rfl ?_
                refine V_getR C 12 dX9_lays_212 o9 rfl hin_X9_lays_X9 (by decide) lk_X9_lays_34 rfl rfl ?_
                refine V_iload C dX9_lays_215 rfl ?_
                refine V_aload_n C dX9_lays_217 rfl ?_
                refine V_getR C 12 dX9_lays_218 o9 rfl hin_X9_lays_X9 (by decide) lk_X9_lays_34 rfl rfl ?_
                refine V_iload C dX9_lays_221 rfl ?_
                refine V_ialdJ C dX9_lays_223 (hM.k ⟨by decide,by decide⟩) (by first | assumption | decide) (by omega) (zM_k (by decide)) ?_
                unfold bcD bcC bcB bcA at ihe
                rcases hbs with hb0 | hb1
                · rw [hb0] at ihe ⊢
                  rw [if_neg (by decide), if_neg (by decide), if_neg (by decide), if_neg (by decide)] at ihe
                  refine V_iload C dX9_lays_224 rfl ?_
                  refine V_if_eq C 234 dX9_lays_226 (by decide) (by omega) (fun z5 => ?_) (fun z5 => ?_)
                  · refine V_iconst C dX9_lays_234 ?_
                    refine V_iadd C dX9_lays_235 ?_
                    refine V_wr ?_
                    refine V_iastJ C dX9_lays_236 (hM.k ⟨by decide,by decide⟩) (by first | assumption | decide) (by omega) (zMu_k (by decide)) ?_
                    refine V_aload_n C dX9_lays_237 rfl ?_
                    refine V_getR C 13 dX9_lays_238 o9 rfl hin_X9_lays_X9 (by decide) lk_X9_lays_37 rfl rfl ?_
                    refine V_iload C dX9_lays_241 rfl ?_
                    refine V_aload_n C dX9_lays_243 rfl ?_
                    refine V_getR C 13 dX9_lays_244 o9 rfl hin_X9_lays_X9 (by decide) lk_X9_lays_37 rfl rfl ?_
                    refine V_iload C dX9_lays_247 rfl ?_
                    refine V_ialdJ C dX9_lays_249 (hM.k ⟨by decide,by decide⟩) (by first | assumption | decide) (by omega) (zM_k (by decide)) ?_
                    refine V_iload C dX9_lays_250 rfl ?_
                    refine V_if_eq C 259 dX9_lays_252 (by decide) (by omega) (fun z6 => ?_) (fun z6 => ?_)
                    · refine V_iload C dX9_lays_259 rfl ?_
                      refine V_iadd C dX9_lays_261 ?_
                      refine V_wr ?_
                      refine V_iastJ C dX9_lays_262 (hM.k ⟨by decide,by decide⟩) (by first | assumption | decide) (by omega) (zMu_k (by decide)) ?_
                      refine V_aload_n C dX9_lays_263 rfl ?_
                      refine V_getR C 14 dX9_lays_264 o9 rfl hin_X9_lays_X9 (by decide) lk_X9_lays_40 rfl rfl ?_
                      refine V_iload C dX9_lays_267 rfl ?_
                      refine V_iload C dX9_lays_269 rfl ?_
                      refine V_if_eq C 284 dX9_lays_271 (by decide) (by omega) (fun z7 => ?_) (fun z7 => ?_)
                      · refine V_aload_n C dX9_lays_284 rfl ?_
                        refine V_getR C 14 dX9_lays_285 o9 rfl hin_X9_lays_X9 (by decide) lk_X9_lays_40 rfl rfl ?_
                        refine V_iload C dX9_lays_288 rfl ?_
                        refine V_ialdJ C dX9_lays_290 (hM.k ⟨by decide,by decide⟩) (by first | assumption | decide) (by omega) (zM_k (by decide)) ?_
                        refine V_iastJ C dX9_lays_291 (hM.k ⟨by decide,by decide⟩) (by first | assumption | decide) (by omega) (zMu_k (by decide)) ?_
                        refine V_aload_n C dX9_lays_292 rfl ?_
                        refine V_getR C 15 dX9_lays_293 o9 rfl hin_X9_lays_X9 (by decide) lk_X9_lays_43 rfl rfl ?_
                        refine V_iload C dX9_lays_296 rfl ?_
                        refine V_iload C dX9_lays_298 rfl ?_
                        refine V_if_eq C 313 dX9_lays_300 (by decide) (by omega) (fun z8 => ?_) (fun z8 => ?_)
                        · refine V_aload_n C dX9_lays_313 rfl ?_
                          refine V_getR C 17 dX9_lays_314 o9 rfl hin_X9_lays_X9 (by decide) lk_X9_lays_49 rfl rfl ?_
                          refine V_iload C dX9_lays_317 rfl ?_
                          refine V_ialdJ C dX9_lays_319 h14 (by first | assumption | decide) (by omega) (zM_k (by decide)) ?_
                          refine V_iastJ C dX9_lays_320 (hM.k ⟨by decide,by decide⟩) (by first | assumption | decide) (by omega) (zMu_k (by decide)) ?_
                          refine V_iload C dX9_lays_321 rfl ?_
                          refine V_aload_n C dX9_lays_323 rfl ?_
                          refine V_getR C 17 dX9_lays_324 o9 rfl hin_X9_lays_X9 (by decide) lk_X9_lays_49 rfl rfl ?_
                          refine V_iload C dX9_lays_327 rfl ?_
                          refine V_ialdJ C dX9_lays_329 h14 (by first | assumption | decide) (by omega) (zM_k (by decide)) ?_
                          refine V_iconst C dX9_lays_330 ?_
                          refine V_iadd C dX9_lays_331 ?_
                          refine V_iadd C dX9_lays_332 ?_
                          refine V_istore C dX9_lays_333 rfl (by decide) ?_
                          refine V_iinc C dX9_lays_335 rfl rfl (by decide) ?_
                          refine V_goto C 194 dX9_lays_338 (by decide) ?_
                          exact ihe
                        · exact absurd rfl z8
                      · exact absurd rfl z7
                    · exact absurd rfl z6
                  · exact absurd rfl z5
                · rw [hb1] at ihe ⊢
                  rw [if_pos rfl, if_pos rfl, if_pos rfl, if_pos rfl] at ihe
                  refine V_iload C dX9_lays_224 rfl ?_
                  refine V_if_eq C 234 dX9_lays_226 (by decide) (by omega) (fun z5 => ?_) (fun z5 => ?_)
                  · exact absurd z5 (by decide)
                  · refine V_iload C dX9_lays_229 rfl ?_
                    refine V_goto C 235 dX9_lays_231 (by decide) ?_
                    refine V_iadd C dX9_lays_235 ?_
                    refine V_wr ?_
                    refine V_iastJ C dX9_lays_236 (hM.k ⟨by decide,by decide⟩) (by first | assumption | decide) (by omega) (zMu_k (by decide)) ?_
                    refine V_aload_n C dX9_lays_237 rfl ?_
                    refine V_getR C 13 dX9_lays_238 o9 rfl hin_X9_lays_X9 (by decide) lk_X9_lays_37 rfl rfl ?_
                    refine V_iload C dX9_lays_241 rfl ?_
                    refine V_aload_n C dX9_lays_243 rfl ?_
                    refine V_getR C 13 dX9_lays_244 o9 rfl hin_X9_lays_X9 (by decide) lk_X9_lays_37 rfl rfl ?_
                    refine V_iload C dX9_lays_247 rfl ?_
                    refine V_ialdJ C dX9_lays_249 (hM.k ⟨by decide,by decide⟩) (by first | assumption | decide) (by omega) (zM_k (by decide)) ?_
                    refine V_iload C dX9_lays_250 rfl ?_
                    refine V_if_eq C 259 dX9_lays_252 (by decide) (by omega) (fun z6 => ?_) (fun z6 => ?_)
                    · exact absurd z6 (by decide)
                    · refine V_iconst C dX9_lays_255 ?_
                      refine V_goto C 261 dX9_lays_256 (by decide) ?_
                      refine V_iadd C dX9_lays_261 ?_
                      refine V_wr ?_
                      refine V_iastJ C dX9_lays_262 (hM.k ⟨by decide,by decide⟩) (by first | assumption | decide) (by omega) (zMu_k (by decide)) ?_
                      refine V_aload_n C dX9_lays_263 rfl ?_
                      refine V_getR C 14 dX9_lays_264 o9 rfl hin_X9_lays_X9 (by decide) lk_X9_lays_40 rfl rfl ?_
                      refine V_iload C dX9_lays_267 rfl ?_
                      refine V_iload C dX9_lays_269 rfl ?_
                      refine V_if_eq C 284 dX9_lays_271 (by decide) (by omega) (fun z7 => ?_) (fun z7 => ?_)
                      · exact absurd z7 (by decide)
                      · refine V_aload_n C dX9_lays_274 rfl ?_
                        refine V_getR C 17 dX9_lays_275 o9 rfl hin_X9_lays_X9 (by decide) lk_X9_lays_49 rfl rfl ?_
                        refine V_iload C dX9_lays_278 rfl ?_
                        refine V_ialdJ C dX9_lays_280 h14 (by first | assumption | decide) (by omega) (zM_k (by decide)) ?_
                        refine V_goto C 291 dX9_lays_281 (by decide) ?_
                        refine V_iastJ C dX9_lays_291 (hM.k ⟨by decide,by decide⟩) (by first | assumption | decide) (by omega) (zMu_k (by decide)) ?_
                        refine V_aload_n C dX9_lays_292 rfl ?_
                        refine V_getR C 15 dX9_lays_293 o9 rfl hin_X9_lays_X9 (by decide) lk_X9_lays_43 rfl rfl ?_
                        refine V_iload C dX9_lays_296 rfl ?_
                        refine V_iload C dX9_lays_298 rfl ?_
                        refine V_if_eq C 313 dX9_lays_300 (by decide) (by omega) (fun z8 => ?_) (fun z8 => ?_)
                        · exact absurd z8 (by decide)
                        · refine V_aload_n C dX9_lays_303 rfl ?_
                          refine V_getR C 15 dX9_lays_304 o9 rfl hin_X9_lays_X9 (by decide) lk_X9_lays_43 rfl rfl ?_
                          refine V_iload C dX9_lays_307 rfl ?_
                          refine V_ialdJ C dX9_lays_309 (hM.k ⟨by decide,by decide⟩) (by first | assumption | decide) (by omega) (zM_k (by decide)) ?_
                          refine V_goto C 320 dX9_lays_310 (by decide) ?_
                          refine V_iastJ C dX9_lays_320 (hM.k ⟨by decide,by decide⟩) (by first | assumption | decide) (by omega) (zMu_k (by decide)) ?_
                          refine V_iload C dX9_lays_321 rfl ?_
                          refine V_aload_n C dX9_lays_323 rfl ?_
                          refine V_getR C 17 dX9_lays_324 o9 rfl hin_X9_lays_X9 (by decide) lk_X9_lays_49 rfl rfl ?_
                          refine V_iload C dX9_lays_327 rfl ?_
                          refine V_ialdJ C dX9_lays_329 h14 (by first | assumption | decide) (by omega) (zM_k (by decide)) ?_
                          refine V_iconst C dX9_lays_330 ?_
                          refine V_iadd C dX9_lays_331 ?_
                          refine V_iadd C dX9_lays_332 ?_
                          refine V_istore C dX9_lays_333 rfl (by decide) ?_
                          refine V_iinc C dX9_lays_335 rfl rfl (by decide) ?_
                          refine V_goto C 194 dX9_lays_338 (by decide) ?_
                          exact ihe
          have go : V X 177 [some (.ref r), some (.int (I32 w)), some (.int (I32 h)), some (.int (I32 a)), some (.int (I32 x)), some (.int (I32 (bsT T x))), w6, w7, w8, w9] [.int (I32 (exF T Y0 x x)), .int (I32 x), .ref r] S n (lyM mu r T q Y0) la 0 0 := by
            refine V_callVD (nA := 2) C dX9_lays_177 (m_shares C.gp hM hB (by omega) hY0 hx ho1) gX9_lays_X9_shares rfl o9 rfl (by decide +kernel) rfl (by decide) (by decide) (Nat.le_of_ble_eq_true rfl) ⟨by omega, by omega⟩ rfl ?_
            refine V_iconst C dX9_lays_180 ?_
            refine V_istore C dX9_lays_181 rfl (by decide) ?_
            refine V_aload_n C dX9_lays_183 rfl ?_
            refine V_iload C dX9_lays_184 rfl ?_
            refine V_callVD (nA := 1) C dX9_lays_186 (m_children C.gp hM hB (by omega) (by omega)) gX9_lays_X9_children rfl o9 rfl (by decide +kernel) rfl (by decide) (by decide) (Nat.le_of_ble_eq_true rfl) ⟨by omega, by omega⟩ rfl ?_
            refine V_istore C dX9_lays_189 rfl (by decide) ?_
            refine V_iconst C dX9_lays_191 ?_
            refine V_istore C dX9_lays_192 rfl (by decide) ?_
            exact kids (kdT T x).toNat 0 0 _ _ (by omega) (by omega) hY1 rfl
          refine V_aload_n C dX9_lays_134 rfl ?_
          refine V_iload C dX9_lays_135 rfl ?_
          refine V_iconst C dX9_lays_137 ?_
          refine V_callVD (nA := 2) C dX9_lays_138 (m_of C.gp hM hx 0 (by decide) rfl) gX9_lays_X9_of rfl o9 rfl (by decide +kernel) rfl (by decide) (by decide) (Nat.le_of_ble_eq_true rfl) ⟨by omega, by omega⟩ rfl ?_
          refine V_iconst C dX9_lays_141 ?_
          unfold exF bsT at go
          refine V_icmp_ne C 149 dX9_lays_142 (by decide) (by omega) (by omega) (fun z4 => ?_) (fun z4 => ?_)
          · rw [if_neg z4, if_neg z4] at go
            refine V_iconst C dX9_lays_149 ?_
            refine V_istore C dX9_lays_150 rfl (by decide) ?_
            refine V_aload_n C dX9_lays_152 rfl ?_
            refine V_iload C dX9_lays_153 rfl ?_
            refine V_iload C dX9_lays_155 rfl ?_
            refine V_if_eq C 170 dX9_lays_157 (by decide) (by omega) (fun z5 => ?_) (fun z5 => ?_)
            · refine V_aload_n C dX9_lays_170 rfl ?_
              refine V_getR C 15 dX9_lays_171 o9 rfl hin_X9_lays_X9 (by decide) lk_X9_lays_43 rfl rfl ?_
              refine V_iload C dX9_lays_174 rfl ?_
              refine V_ialdJ C dX9_lays_176 (hM.k ⟨by decide,by decide⟩) (by first | assumption | decide) (by omega) (zM_k (by decide)) ?_
              exact go
            · exact absurd rfl z5
          · rw [if_pos z4, if_pos z4] at go
            refine V_iconst C dX9_lays_145 ?_
            refine V_goto C 150 dX9_lays_146 (by decide) ?_
            refine V_istore C dX9_lays_150 rfl (by decide) ?_
            refine V_aload_n C dX9_lays_152 rfl ?_
            refine V_iload C dX9_lays_153 rfl ?_
            refine V_iload C dX9_lays_155 rfl ?_
            refine V_if_eq C 170 dX9_lays_157 (by decide) (by omega) (fun z5 => ?_) (fun z5 => ?_)
            · exact absurd z5 (by decide)
            · refine V_aload_n C dX9_lays_160 rfl ?_
              refine V_getR C 14 dX9_lays_161 o9 rfl hin_X9_lays_X9 (by decide) lk_X9_lays_40 rfl rfl ?_
              refine V_iload C dX9_lays_164 rfl ?_
              refine V_ialdJ C dX9_lays_166 (hM.k ⟨by decide,by decide⟩) (by first | assumption | decide) (by omega) (zM_k (by decide)) ?_
              refine V_goto C 177 dX9_lays_167 (by decide) ?_
              exact go
  have least : ∀ (d : Nat) (a : Int) (Y : Mem), a + 1 = d → a < q → R32Z Y → (∀ i, Y 6 i = Z1 6 i) → leG mu r T d Y = leG mu r T q.toNat Z1 → V X 11 [some (.ref r), some (.int (I32 w)), some (.int (I32 h)), some (.int (I32 a)), none, none, none, none, none, none] [] S n (lyM mu r T q Y) la 0 0 := by
    intro d
    induction d with
    | zero =>
      intro a Y h1 h2 hY h6Y h3
      rw [leG] at h3
      rw [← h3] at ela
      have h8 := box q.toNat 0 Z2 none none none none none none (by omega) (by omega) hR2 h62 hb rfl
      unfold rtZ at ela
      refine V_iload_n C dX9_lays_11 rfl ?_
      refine V_if_lt C 57 dX9_lays_12 (by decide) (by omega) (fun z1 => ?_) (fun z1 => ?_)
      · refine V_aload_n C dX9_lays_57 rfl ?_
        refine V_getJ C 9 9 rfl dX9_lays_58 o9 rfl hin_X9_lays_X9 (by decide) lk_X9_lays_91 rfl rfl (zM_q) ?_
        refine V_if_le C 99 dX9_lays_61 (by decide) (by omega) (fun z2 => ?_) (fun z2 => ?_)
        · rw [if_neg (by omega)] at ela
          rw [ela] at h8
          refine V_iconst C dX9_lays_99 ?_
          refine V_istore_n C dX9_lays_100 rfl (by decide) ?_
          exact h8
        · rw [if_pos (by omega)] at ela
          rw [ela] at h8
          unfold rbZ at h8
          have hx := h6 0 (by omega)
          rw [← h6Y] at hx
          refine V_aload_n C dX9_lays_64 rfl ?_
          refine V_getR C 8 dX9_lays_65 o9 rfl hin_X9_lays_X9 (by decide) lk_X9_lays_25 rfl rfl ?_
          refine V_iconst C dX9_lays_68 ?_
          refine V_ialdJ C dX9_lays_69 (hM.k ⟨by decide,by decide⟩) (by first | assumption | decide) (by omega) (zM_k (by decide)) ?_
          refine V_istore_n C dX9_lays_70 rfl (by decide) ?_
          refine V_aload_n C dX9_lays_71 rfl ?_
          refine V_getR C 12 dX9_lays_72 o9 rfl hin_X9_lays_X9 (by decide) lk_X9_lays_34 rfl rfl ?_
          refine V_iload_n C dX9_lays_75 rfl ?_
          refine V_iconst C dX9_lays_76 ?_
          refine V_iastJ C dX9_lays_77 (hM.k ⟨by decide,by decide⟩) (by first | assumption | decide) (by omega) (zMu_k (by decide)) ?_
          refine V_aload_n C dX9_lays_78 rfl ?_
          refine V_getR C 13 dX9_lays_79 o9 rfl hin_X9_lays_X9 (by decide) lk_X9_lays_37 rfl rfl ?_
          refine V_iload_n C dX9_lays_82 rfl ?_
          refine V_iconst C dX9_lays_83 ?_
          refine V_iastJ C dX9_lays_84 (hM.k ⟨by decide,by decide⟩) (by first | assumption | decide) (by omega) (zMu_k (by decide)) ?_
          refine V_aload_n C dX9_lays_85 rfl ?_
          refine V_getR C 14 dX9_lays_86 o9 rfl hin_X9_lays_X9 (by decide) lk_X9_lays_40 rfl rfl ?_
          refine V_iload_n C dX9_lays_89 rfl ?_
          refine V_iload_n C dX9_lays_90 rfl ?_
          refine V_iastJ C dX9_lays_91 (hM.k ⟨by decide,by decide⟩) (by first | assumption | decide) (by omega) (zMu_k (by decide)) ?_
          refine V_aload_n C dX9_lays_92 rfl ?_
          refine V_getR C 15 dX9_lays_93 o9 rfl hin_X9_lays_X9 (by decide) lk_X9_lays_43 rfl rfl ?_
          refine V_iload_n C dX9_lays_96 rfl ?_
          refine V_iload_n C dX9_lays_97 rfl ?_
          refine V_iastJ C dX9_lays_98 (hM.k ⟨by decide,by decide⟩) (by first | assumption | decide) (by omega) (zMu_k (by decide)) ?_
          refine V_iconst C dX9_lays_99 ?_
          refine V_istore_n C dX9_lays_100 rfl (by decide) ?_
          exact h8
      · exact absurd z1 (by omega)
    | succ d ih =>
      intro a Y h1 h2 hY h6Y h3
      rw [leG, show ((d : Nat) : Int) = a by omega] at h3
      have hx := h6 a (by omega)
      rw [← h6Y a] at hx
      generalize ex : Y 6 a = x at hx h3
      have bsp := spT_b T x
      refine V_iload_n C dX9_lays_11 rfl ?_
      refine V_if_lt C 57 dX9_lays_12 (by decide) (by omega) (fun z1 => ?_) (fun z1 => ?_)
      · exact absurd z1 (by omega)
      · refine V_aload_n C dX9_lays_15 rfl ?_
        refine V_aload_n C dX9_lays_16 rfl ?_
        refine V_getR C 8 dX9_lays_17 o9 rfl hin_X9_lays_X9 (by decide) lk_X9_lays_25 rfl rfl ?_
        refine V_iload_n C dX9_lays_20 rfl ?_
        refine V_ialdJ C dX9_lays_21 (hM.k ⟨by decide,by decide⟩) (by first | assumption | decide) (by omega) ((zM_k (by decide)).trans ex) ?_
        refine V_callVD (nA := 1) C dX9_lays_22 (m_isSplit C.gp hM hB (by omega) hx) gX9_lays_X9_isSplit rfl o9 rfl (by decide +kernel) rfl (by decide) (by decide) (Nat.le_of_ble_eq_true rfl) ⟨by omega, by omega⟩ rfl ?_
        refine V_if_eq C 41 dX9_lays_25 (by decide) (by omega) (fun z2 => ?_) (fun z2 => ?_)
        · rw [if_neg (by omega)] at h3
          refine V_aload_n C dX9_lays_41 rfl ?_
          refine V_aload_n C dX9_lays_42 rfl ?_
          refine V_getR C 8 dX9_lays_43 o9 rfl hin_X9_lays_X9 (by decide) lk_X9_lays_25 rfl rfl ?_
          refine V_iload_n C dX9_lays_46 rfl ?_
          refine V_ialdJ C dX9_lays_47 (hM.k ⟨by decide,by decide⟩) (by first | assumption | decide) (by omega) ((zM_k (by decide)).trans ex) ?_
          refine V_callVD (nA := 1) C dX9_lays_48 (m_leastOfGroup C.gp hM hR hB (by omega) hP hx) gX9_lays_X9_leastOfGroup rfl o9 rfl (by decide +kernel) rfl (by decide) (by decide) (Nat.le_of_ble_eq_true rfl) ⟨by omega, by omega⟩ rfl ?_
          refine V_iinc C dX9_lays_51 rfl rfl (by decide) ?_
          refine V_goto C 11 dX9_lays_54 (by decide) ?_
          exact ih (a + -1) _ (by omega) (by omega) (lgZ_R hR hY _) (fun i => (lgZ_k (by decide) (by decide)).trans (h6Y i)) h3
        · rw [if_pos (by omega)] at h3
          refine V_aload_n C dX9_lays_28 rfl ?_
          refine V_aload_n C dX9_lays_29 rfl ?_
          refine V_getR C 8 dX9_lays_30 o9 rfl hin_X9_lays_X9 (by decide) lk_X9_lays_25 rfl rfl ?_
          refine V_iload_n C dX9_lays_33 rfl ?_
          refine V_ialdJ C dX9_lays_34 (hM.k ⟨by decide,by decide⟩) (by first | assumption | decide) (by omega) ((zM_k (by decide)).trans ex) ?_
          refine V_callVD (nA := 1) C dX9_lays_35 (m_leastOfSplit C.gp hM hB (by omega) hY hx (hS x hx (by omega))) gX9_lays_X9_leastOfSplit rfl o9 rfl (by decide +kernel) rfl (by decide) (by decide) (Nat.le_of_ble_eq_true rfl) ⟨by omega, by omega⟩ rfl ?_
          refine V_goto C 51 dX9_lays_38 (by decide) ?_
          refine V_iinc C dX9_lays_51 rfl rfl (by decide) ?_
          refine V_goto C 11 dX9_lays_54 (by decide) ?_
          exact ih (a + -1) _ (by omega) (by omega) (lsZ_R hY _) (fun i => (lsZ_k (by decide) (by decide)).trans (h6Y i)) h3
  refine V_aload_n C dX9_lays_4 rfl ?_
  refine V_getJ C 9 9 rfl dX9_lays_5 o9 rfl hin_X9_lays_X9 (by decide) lk_X9_lays_91 rfl rfl (zM_q) ?_
  refine V_iconst C dX9_lays_8 ?_
  refine V_isub C dX9_lays_9 ?_
  refine V_istore_n C dX9_lays_10 rfl (by decide) ?_
  exact least q.toNat (q - 1) Z1 (by omega) (by omega) hR1 (fun _ => rfl) rfl
set_option maxRecDepth 20000 in
theorem ggX9_laysAll_X9_lays : GoodIn wsX9_laysAll wsX9_lays := goodIn_r _ [6, 7, 8, 9, 10, 11, 12, 13, 14, 15, 16, 17, 5, 18, 19, 20, 21, 22, 23, 24, 25, 26, 1, 27, 28, 29, 30, 31, 32, 33, 34, 35, 36, 37, 38, 39, 40, 41, 42, 43, 44, 45, 46, 47, 48, 49, 50, 51, 52, 53, 54, 55, 56, 57, 58, 59, 60, 61, 62, 63, 64, 65, 66, 67, 68, 69, 70, 71, 72, 73, 74, 75, 76, 77, 78, 79, 80, 81, 82, 83, 84, 85, 86, 87, 88, 89, 90, 91, 92, 93, 94, 95, 96] (by decide +kernel) (by decide +kernel)
set_option maxRecDepth 20000 in
theorem gX9_laysAll_X9_lays : GoodIn wsX9_laysAll (wsV RX9 132 RX9 yX9_lays wsX9_lays) := goodIn_app (goodIn_of _ (by decide +kernel)) ggX9_laysAll_X9_lays
theorem dX9_laysAll_0 : decode cX9_laysAll 0 = .ok (.aload_n 0, 1) := by decide +kernel
theorem dX9_laysAll_1 : decode cX9_laysAll 1 = .ok (.aload_n 0, 1) := by decide +kernel
theorem dX9_laysAll_2 : decode cX9_laysAll 2 = .ok (.getfield 7, 3) := by decide +kernel
theorem dX9_laysAll_5 : decode cX9_laysAll 5 = .ok (.iconst 0, 1) := by decide +kernel
theorem dX9_laysAll_6 : decode cX9_laysAll 6 = .ok (.iaload, 1) := by decide +kernel
theorem dX9_laysAll_7 : decode cX9_laysAll 7 = .ok (.aload_n 0, 1) := by decide +kernel
theorem dX9_laysAll_8 : decode cX9_laysAll 8 = .ok (.getfield 7, 3) := by decide +kernel
theorem dX9_laysAll_11 : decode cX9_laysAll 11 = .ok (.iconst 1, 1) := by decide +kernel
theorem dX9_laysAll_12 : decode cX9_laysAll 12 = .ok (.iaload, 1) := by decide +kernel
theorem dX9_laysAll_13 : decode cX9_laysAll 13 = .ok (.invokevirtual 132, 3) := by decide +kernel
theorem dX9_laysAll_16 : decode cX9_laysAll 16 = .ok (.return_, 1) := by decide +kernel
theorem hin_X9_laysAll_X9 : ∀ w ∈ wsX90, w ∈ wsX9_laysAll := by decide +kernel
theorem lk_X9_laysAll_7 : Cond.fieldLink RX9 7 RX9 "s" "[I" ∈ wsX9_laysAll := by decide +kernel
theorem m_laysAll (hG : GP G) (hM : MoS S r) (hR : R32 mu) (hRZ : R32Z Z) {N : Int} (hB : TB N T) (hN : N ≤ 1073740000) (hP : 0 ≤ mu (r + 1) 2 ∧ mu (r + 1) 2 ≤ 16) {q0 : Int} (hS : SO T) (hq : (quT T Z).1 ≤ 32) (hq0 : 0 ≤ (quT T Z).1) (hb : okB T (quT T Z).1.toNat 0 (la1 mu r T Z (mu (r + 1) 0) (mu (r + 1) 1))) : Ct G l yX9_laysAll wsX9_laysAll 6 0 0 [.ref r] S n (lyM mu r T q0 Z) la (Dt none S n (lyM mu r T (quT T Z).1 (laZ mu r T Z (mu (r + 1) 0) (mu (r + 1) 1))) la) := by
  have o9 := hM.1
  refine Ct.ofV (cc := cX9_laysAll) (nL := 1) (ret := none) [some (.ref r)] hG (by decide) rfl (Nat.le_of_ble_eq_true rfl) rfl ?_
  rintro X rfl rfl C hcl hsl E
  refine V_aload_n C dX9_laysAll_0 rfl ?_
  refine V_aload_n C dX9_laysAll_1 rfl ?_
  refine V_getR C 0 dX9_laysAll_2 o9 rfl hin_X9_laysAll_X9 (by decide) lk_X9_laysAll_7 rfl rfl ?_
  refine V_iconst C dX9_laysAll_5 ?_
  refine V_ialdJ C dX9_laysAll_6 hM.2.1 (by first | assumption | decide) (by omega) (zM_1 (by decide)) ?_
  refine V_aload_n C dX9_laysAll_7 rfl ?_
  refine V_getR C 0 dX9_laysAll_8 o9 rfl hin_X9_laysAll_X9 (by decide) lk_X9_laysAll_7 rfl rfl ?_
  refine V_iconst C dX9_laysAll_11 ?_
  refine V_ialdJ C dX9_laysAll_12 hM.2.1 (by first | assumption | decide) (by omega) (zM_1 (by decide)) ?_
  refine V_callVD (nA := 2) C dX9_laysAll_13 (m_lays C.gp hM hR hRZ hB hN hP (hR _ _) (hR _ _) hS hq hq0 hb) gX9_laysAll_X9_lays rfl o9 rfl (by decide +kernel) rfl (by decide) (by decide) (Nat.le_of_ble_eq_true rfl) ⟨by omega, by omega⟩ rfl ?_
  refine V_return C E dX9_laysAll_16 (by omega) (by omega) ?_
  exact Dt_rfl
theorem dX9_tightMany_0 : decode cX9_tightMany 0 = .ok (.iconst 0, 1) := by decide +kernel
theorem dX9_tightMany_1 : decode cX9_tightMany 1 = .ok (.istore_n 1, 1) := by decide +kernel
theorem dX9_tightMany_2 : decode cX9_tightMany 2 = .ok (.iconst 0, 1) := by decide +kernel
theorem dX9_tightMany_3 : decode cX9_tightMany 3 = .ok (.istore_n 2, 1) := by decide +kernel
theorem dX9_tightMany_4 : decode cX9_tightMany 4 = .ok (.iload_n 2, 1) := by decide +kernel
theorem dX9_tightMany_5 : decode cX9_tightMany 5 = .ok (.aload_n 0, 1) := by decide +kernel
theorem dX9_tightMany_6 : decode cX9_tightMany 6 = .ok (.getfield 91, 3) := by decide +kernel
theorem dX9_tightMany_9 : decode cX9_tightMany 9 = .ok (.if_icmp .ge 23, 3) := by decide +kernel
theorem dX9_tightMany_12 : decode cX9_tightMany 12 = .ok (.iload_n 1, 1) := by decide +kernel
theorem dX9_tightMany_13 : decode cX9_tightMany 13 = .ok (.aload_n 0, 1) := by decide +kernel
theorem dX9_tightMany_14 : decode cX9_tightMany 14 = .ok (.getfield 46, 3) := by decide +kernel
theorem dX9_tightMany_17 : decode cX9_tightMany 17 = .ok (.aload_n 0, 1) := by decide +kernel
theorem dX9_tightMany_18 : decode cX9_tightMany 18 = .ok (.getfield 25, 3) := by decide +kernel
theorem dX9_tightMany_21 : decode cX9_tightMany 21 = .ok (.iload_n 2, 1) := by decide +kernel
theorem dX9_tightMany_22 : decode cX9_tightMany 22 = .ok (.iaload, 1) := by decide +kernel
theorem dX9_tightMany_23 : decode cX9_tightMany 23 = .ok (.iaload, 1) := by decide +kernel
theorem dX9_tightMany_24 : decode cX9_tightMany 24 = .ok (.iadd, 1) := by decide +kernel
theorem dX9_tightMany_25 : decode cX9_tightMany 25 = .ok (.istore_n 1, 1) := by decide +kernel
theorem dX9_tightMany_26 : decode cX9_tightMany 26 = .ok (.iinc 2 1, 3) := by decide +kernel
theorem dX9_tightMany_29 : decode cX9_tightMany 29 = .ok (.goto (-25), 3) := by decide +kernel
theorem dX9_tightMany_32 : decode cX9_tightMany 32 = .ok (.iload_n 1, 1) := by decide +kernel
theorem dX9_tightMany_33 : decode cX9_tightMany 33 = .ok (.ireturn, 1) := by decide +kernel
theorem hin_X9_tightMany_X9 : ∀ w ∈ wsX90, w ∈ wsX9_tightMany := by decide +kernel
theorem lk_X9_tightMany_91 : Cond.fieldLink RX9 91 RX9 "queued" "I" ∈ wsX9_tightMany := by decide +kernel
theorem lk_X9_tightMany_46 : Cond.fieldLink RX9 46 RX9 "tight" "[I" ∈ wsX9_tightMany := by decide +kernel
theorem lk_X9_tightMany_25 : Cond.fieldLink RX9 25 RX9 "queue" "[I" ∈ wsX9_tightMany := by decide +kernel
theorem m_tightMany (hG : GP G) (hM : MoS S r) {q : Int} (hq : 0 ≤ q ∧ q ≤ 32) (h6 : ∀ i, 0 ≤ i ∧ i < q → 0 ≤ Z 6 i ∧ Z 6 i < 32) : Ct G l yX9_tightMany wsX9_tightMany 0 0 0 [.ref r] S n (lyM mu r T q Z) la (Dt (some (.int (I32 (smG (fun k => Z 13 (Z 6 k)) q.toNat)))) S n (lyM mu r T q Z) la) := by
  have o9 := hM.1
  refine Ct.ofV (cc := cX9_tightMany) (nL := 3) (ret := (some .int)) [some (.ref r), none, none] hG (by decide) rfl (Nat.le_of_ble_eq_true rfl) rfl ?_
  rintro X rfl rfl C hcl hsl E
  have loop : ∀ (d j : Nat), j + d = q.toNat → V X 4 [some (.ref r), some (.int (I32 (smG (fun k => Z 13 (Z 6 k)) j))), some (.int (I32 (j : Int)))] [] S n (lyM mu r T q Z) la 0 0 := by
    intro d
    induction d with
    | zero =>
      intro j h1
      have hj : j = q.toNat := by omega
      subst hj
      refine V_iload_n C dX9_tightMany_4 rfl ?_
      refine V_aload_n C dX9_tightMany_5 rfl ?_
      refine V_getJ C 9 9 rfl dX9_tightMany_6 o9 rfl hin_X9_tightMany_X9 (by decide) lk_X9_tightMany_91 rfl rfl (zM_q) ?_
      refine V_icmp_ge C 32 dX9_tightMany_9 (by decide) (by omega) (by omega) (fun z9 => ?_) (fun z9 => ?_)
      · refine V_iload_n C dX9_tightMany_32 rfl ?_
        refine V_ireturn C E dX9_tightMany_33 (by omega) (by omega) ?_
        exact Dt_rfl
      · exact absurd z9 (by first | omega | decide)
    | succ d ih =>
      intro j h1
      have h9 := ih (j + 1) (by omega)
      have hx := h6 j (by omega)
      rw [smG] at h9
      refine V_iload_n C dX9_tightMany_4 rfl ?_
      refine V_aload_n C dX9_tightMany_5 rfl ?_
      refine V_getJ C 9 9 rfl dX9_tightMany_6 o9 rfl hin_X9_tightMany_X9 (by decide) lk_X9_tightMany_91 rfl rfl (zM_q) ?_
      refine V_icmp_ge C 32 dX9_tightMany_9 (by decide) (by omega) (by omega) (fun z9 => ?_) (fun z9 => ?_)
      · exact absurd z9 (by first | omega | decide)
      · refine V_iload_n C dX9_tightMany_12 rfl ?_
        refine V_aload_n C dX9_tightMany_13 rfl ?_
        refine V_getR C 16 dX9_tightMany_14 o9 rfl hin_X9_tightMany_X9 (by decide) lk_X9_tightMany_46 rfl rfl ?_
        refine V_aload_n C dX9_tightMany_17 rfl ?_
        refine V_getR C 8 dX9_tightMany_18 o9 rfl hin_X9_tightMany_X9 (by decide) lk_X9_tightMany_25 rfl rfl ?_
        refine V_iload_n C dX9_tightMany_21 rfl ?_
        refine V_ialdJ C dX9_tightMany_22 (hM.k ⟨by decide,by decide⟩) (by first | assumption | decide) (by omega) (zM_k (by decide)) ?_
        refine V_ialdJ C dX9_tightMany_23 (hM.k ⟨by decide,by decide⟩) (by first | assumption | decide) (by omega) (zM_k (by decide)) ?_
        refine V_iadd C dX9_tightMany_24 ?_
        refine V_istore_n C dX9_tightMany_25 rfl (by decide) ?_
        refine V_iinc C dX9_tightMany_26 rfl rfl (by decide) ?_
        refine V_goto C 4 dX9_tightMany_29 (by decide) ?_
        exact h9
  refine V_iconst C dX9_tightMany_0 ?_
  refine V_istore_n C dX9_tightMany_1 rfl (by decide) ?_
  refine V_iconst C dX9_tightMany_2 ?_
  refine V_istore_n C dX9_tightMany_3 rfl (by decide) ?_
  exact loop q.toNat 0 (by omega)
end MA
