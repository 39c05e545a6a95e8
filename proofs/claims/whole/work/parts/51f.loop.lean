/-! THE LAW FROM ITS ENTRY TO ITS END -/
set_option maxRecDepth 20000 in
theorem ggL_law_X8_init : GoodIn wsL_law wsX8_init := goodIn_s _ [(9, 89), (1379, 7), (1349, 6), (1386, 36)] (by rfl) (by decide +kernel)
set_option maxRecDepth 20000 in
theorem gL_law_X8_init : GoodIn wsL_law (wsX8_init) := ggL_law_X8_init
set_option maxRecDepth 20000 in
theorem ggL_law_X9_init : GoodIn wsL_law wsX9_init := goodIn_s _ [(100, 2), (11, 2), (40, 1), (102, 16), (1355, 24)] (by rfl) (by decide +kernel)
set_option maxRecDepth 20000 in
theorem gL_law_X9_init : GoodIn wsL_law (wsX9_init) := ggL_law_X9_init
theorem dL_law_0 : decode cL_law 0 = .ok (.new 8, 3) := by decide +kernel
theorem dL_law_3 : decode cL_law 3 = .ok (.dup, 1) := by decide +kernel
theorem dL_law_4 : decode cL_law 4 = .ok (.invokespecial 98, 3) := by decide +kernel
theorem dL_law_7 : decode cL_law 7 = .ok (.astore_n 1, 1) := by decide +kernel
theorem dL_law_8 : decode cL_law 8 = .ok (.new 99, 3) := by decide +kernel
theorem dL_law_11 : decode cL_law 11 = .ok (.dup, 1) := by decide +kernel
theorem dL_law_12 : decode cL_law 12 = .ok (.invokespecial 101, 3) := by decide +kernel
theorem dL_law_15 : decode cL_law 15 = .ok (.astore_n 2, 1) := by decide +kernel
theorem dL_law_16 : decode cL_law 16 = .ok (.iconst 1, 1) := by decide +kernel
theorem dL_law_17 : decode cL_law 17 = .ok (.newarray .long, 2) := by decide +kernel
theorem dL_law_19 : decode cL_law 19 = .ok (.astore_n 3, 1) := by decide +kernel
theorem dL_law_20 : decode cL_law 20 = .ok (.iconst 0, 1) := by decide +kernel
theorem dL_law_21 : decode cL_law 21 = .ok (.istore 4, 2) := by decide +kernel
theorem dL_law_23 : decode cL_law 23 = .ok (.iload 4, 2) := by decide +kernel
theorem dL_law_25 : decode cL_law 25 = .ok (.aload_n 0, 1) := by decide +kernel
theorem dL_law_26 : decode cL_law 26 = .ok (.arraylength, 1) := by decide +kernel
theorem dL_law_27 : decode cL_law 27 = .ok (.bipush 6, 2) := by decide +kernel
theorem dL_law_29 : decode cL_law 29 = .ok (.isub, 1) := by decide +kernel
theorem dL_law_30 : decode cL_law 30 = .ok (.if_icmp .gt 1908, 3) := by decide +kernel
theorem dL_law_33 : decode cL_law 33 = .ok (.aload_n 0, 1) := by decide +kernel
theorem dL_law_34 : decode cL_law 34 = .ok (.iload 4, 2) := by decide +kernel
theorem dL_law_36 : decode cL_law 36 = .ok (.iaload, 1) := by decide +kernel
theorem dL_law_37 : decode cL_law 37 = .ok (.bipush 31, 2) := by decide +kernel
theorem dL_law_39 : decode cL_law 39 = .ok (.iand, 1) := by decide +kernel
theorem dL_law_40 : decode cL_law 40 = .ok (.tableswitch 1892 0 28 #[132, 200, 268, 348, 428, 496, 600, 656, 712, 768, 836, 904, 972, 1028, 1084, 1152, 1232, 1300, 1368, 1424, 1480, 1536, 1604, 1684, 1752, 1808, 1821, 1834, 1878], 132) := by decide +kernel
theorem dL_law_1932 : decode cL_law 1932 = .ok (.iinc 4 6, 3) := by decide +kernel
theorem dL_law_1935 : decode cL_law 1935 = .ok (.goto (-1912), 3) := by decide +kernel
theorem dL_law_1938 : decode cL_law 1938 = .ok (.iconst 1, 1) := by decide +kernel
theorem dL_law_1939 : decode cL_law 1939 = .ok (.ireturn, 1) := by decide +kernel
theorem and31 (v : Int32) : ∃ y : Int, (0 ≤ y ∧ y ≤ 31) ∧ v &&& I32 31 = I32 y := by
  refine ⟨(v &&& I32 31).toInt, ?_, (Int32.ofInt_toInt _).symm⟩
  have h1 : (v &&& I32 31).toBitVec.toNat ≤ 31 := by
    rw [Int32.toBitVec_and, BitVec.toNat_and]
    exact Nat.le_trans Nat.and_le_right (by decide)
  have h2 : (v &&& I32 31).toInt = ((v &&& I32 31).toBitVec.toNat : Int) := BitVec.toInt_eq_toNat_of_lt (by omega)
  omega
section LP
variable {X : Cx} {S : Sh} {w M a c h t p b q r o : Nat} {xs : Nat → Int32}
theorem law_next (C : Ok X cL_law wsL_law RL (some .boolean) 12 7) {n : Nat} {mu : Mem} {la : Lam} {k sl : Nat} {i : Int} (kk : V X 23 [some (.ref w), some (.ref a), some (.ref r), some (.ref o), some (.int (I32 (i + 6))), none, none] [] S n mu la k sl) : V X 1932 [some (.ref w), some (.ref a), some (.ref r), some (.ref o), some (.int (I32 i)), none, none] [] S n mu la k sl := by
  refine V_iinc C dL_law_1932 rfl rfl (by decide) ?_
  exact V_goto C 23 dL_law_1935 (by decide) kk
theorem law_case (Y : Lw X S xs w M a c h t p b q r o) {n : Nat} {mu : Mem} {la : Lam} {k sl : Nat} {i N : Int} (A : Inv N mu c h t p b r) (hN : 1000000 ≤ N ∧ N ≤ 8000000) (hi : 0 ≤ i ∧ i + 6 ≤ M) (hk : k + 1 ≤ (xR X).cells ∧ sl + 6 ≤ (xR X).slots)
    (kk : ∀ (n1 : Nat) (mu2 : Mem) (la2 : Lam), Inv (N + 3000) mu2 c h t p b r → V X 1932 [some (.ref w), some (.ref a), some (.ref r), some (.ref o), some (.int (I32 i)), none, none] [] S n1 mu2 la2 (k + 1) (sl + 6)) : V X 33 [some (.ref w), some (.ref a), some (.ref r), some (.ref o), some (.int (I32 i)), none, none] [] S n mu la k sl := by
  have C := Y.1
  refine V_aload_n C dL_law_33 rfl ?_
  refine V_iload C dL_law_34 rfl ?_
  refine V_sald C Y.2.1 Y.2.2.1 Y.2.2.2.1 (by omega) dL_law_36 ?_
  refine V_bipush C dL_law_37 (by decide +kernel) ?_
  refine V_iand C dL_law_39 ?_
  obtain ⟨y, hy, ey⟩ := and31 (I32 (sc xs i))
  rw [ey]
  by_cases z : y ≤ 28
  · have cs : y = 0 ∨ y = 1 ∨ y = 2 ∨ y = 3 ∨ y = 4 ∨ y = 5 ∨ y = 6 ∨ y = 7 ∨ y = 8 ∨ y = 9 ∨ y = 10 ∨ y = 11 ∨ y = 12 ∨ y = 13 ∨ y = 14 ∨ y = 15 ∨ y = 16 ∨ y = 17 ∨ y = 18 ∨ y = 19 ∨ y = 20 ∨ y = 21 ∨ y = 22 ∨ y = 23 ∨ y = 24 ∨ y = 25 ∨ y = 26 ∨ y = 27 ∨ y = 28 := by omega
    rcases cs with rfl | rfl | rfl | rfl | rfl | rfl | rfl | rfl | rfl | rfl | rfl | rfl | rfl | rfl | rfl | rfl | rfl | rfl | rfl | rfl | rfl | rfl | rfl | rfl | rfl | rfl | rfl | rfl | rfl
    · exact V_tableIn C 172 dL_law_40 (by omega) (by omega) (by omega) rfl (by decide) (D_setWindow Y A hN hi hk kk)
    · exact V_tableIn C 240 dL_law_40 (by omega) (by omega) (by omega) rfl (by decide) (D_addPane Y A hN hi hk kk)
    · exact V_tableIn C 308 dL_law_40 (by omega) (by omega) (by omega) rfl (by decide) (D_setLeast Y A hN hi hk kk)
    · exact V_tableIn C 388 dL_law_40 (by omega) (by omega) (by omega) rfl (by decide) (D_dock Y A hN hi hk kk)
    · exact V_tableIn C 468 dL_law_40 (by omega) (by omega) (by omega) rfl (by decide) (D_dockAtEdge Y A hN hi hk kk)
    · exact V_tableIn C 536 dL_law_40 (by omega) (by omega) (by omega) rfl (by decide) (D_floatAt Y A hN hi hk kk)
    · exact V_tableIn C 640 dL_law_40 (by omega) (by omega) (by omega) rfl (by decide) (D_raise Y A hN hi hk kk)
    · exact V_tableIn C 696 dL_law_40 (by omega) (by omega) (by omega) rfl (by decide) (D_close Y A hN hi hk kk)
    · exact V_tableIn C 752 dL_law_40 (by omega) (by omega) (by omega) rfl (by decide) (D_activate Y A hN hi hk kk)
    · exact V_tableIn C 808 dL_law_40 (by omega) (by omega) (by omega) rfl (by decide) (D_moveTab Y A hN hi hk kk)
    · exact V_tableIn C 876 dL_law_40 (by omega) (by omega) (by omega) rfl (by decide) (D_setShare Y A hN hi hk kk)
    · exact V_tableIn C 944 dL_law_40 (by omega) (by omega) (by omega) rfl (by decide) (D_drag Y A hN hi hk kk)
    · exact V_tableIn C 1012 dL_law_40 (by omega) (by omega) (by omega) rfl (by decide) (D_save Y A hN hi hk kk)
    · exact V_tableIn C 1068 dL_law_40 (by omega) (by omega) (by omega) rfl (by decide) (D_bringBack Y A hN hi hk kk)
    · exact V_tableIn C 1124 dL_law_40 (by omega) (by omega) (by omega) rfl (by decide) (D_pane Y A hN hi hk kk)
    · exact V_tableIn C 1192 dL_law_40 (by omega) (by omega) (by omega) rfl (by decide) (D_split Y A hN hi hk kk)
    · exact V_tableIn C 1272 dL_law_40 (by omega) (by omega) (by omega) rfl (by decide) (D_paneAt Y A hN hi hk kk)
    · exact V_tableIn C 1340 dL_law_40 (by omega) (by omega) (by omega) rfl (by decide) (D_tab Y A hN hi hk kk)
    · exact V_tableIn C 1408 dL_law_40 (by omega) (by omega) (by omega) rfl (by decide) (D_group Y A hN hi hk kk)
    · exact V_tableIn C 1464 dL_law_40 (by omega) (by omega) (by omega) rfl (by decide) (D_floating Y A hN hi hk kk)
    · exact V_tableIn C 1520 dL_law_40 (by omega) (by omega) (by omega) rfl (by decide) (D_whole Y A hN hi hk kk)
    · exact V_tableIn C 1576 dL_law_40 (by omega) (by omega) (by omega) rfl (by decide) (D_tightIn Y A hN hi hk kk)
    · exact V_tableIn C 1644 dL_law_40 (by omega) (by omega) (by omega) rfl (by decide) (D_cellsIf Y A hN hi hk kk)
    · exact V_tableIn C 1724 dL_law_40 (by omega) (by omega) (by omega) rfl (by decide) (D_bestSide Y A hN hi hk kk)
    · exact V_tableIn C 1792 dL_law_40 (by omega) (by omega) (by omega) rfl (by decide) (D_type Y A hN hi hk kk)
    · exact V_tableIn C 1848 dL_law_40 (by omega) (by omega) (by omega) rfl (by decide) (D_clear Y A hN hk kk)
    · exact V_tableIn C 1861 dL_law_40 (by omega) (by omega) (by omega) rfl (by decide) (D_run Y A hN hk kk)
    · exact V_tableIn C 1874 dL_law_40 (by omega) (by omega) (by omega) rfl (by decide) (D_undo Y A hN hi hk kk)
    · exact V_tableIn C 1918 dL_law_40 (by omega) (by omega) (by omega) rfl (by decide) (D_digest Y A hN hk kk)
  · refine V_tableOut C 1932 dL_law_40 (by omega) (by omega) (by decide) ?_
    exact V_widen (by omega) (by omega) (kk n mu la (A.mn (by omega)))
theorem law_loop (Y : Lw X S xs w M a c h t p b q r o) {k0 s0 : Nat} (hk : k0 + 512 ≤ (xR X).cells ∧ s0 + 3072 ≤ (xR X).slots)
    (fin : ∀ (i : Int) (n : Nat) (mu : Mem) (la : Lam) (k sl : Nat), k ≤ (xR X).cells → sl ≤ (xR X).slots → V X 1938 [some (.ref w), some (.ref a), some (.ref r), some (.ref o), some (.int (I32 i)), none, none] [] S n mu la k sl) :
    ∀ (d j : Nat) (n : Nat) (mu : Mem) (la : Lam), M < 6 * (j + d) + 6 → j ≤ 512 → Inv (1000000 + 3000 * (j : Int)) mu c h t p b r → V X 23 [some (.ref w), some (.ref a), some (.ref r), some (.ref o), some (.int (I32 (6 * (j : Int)))), none, none] [] S n mu la (k0 + j) (s0 + 6 * j) := by
  intro d
  have C := Y.1
  have hM := Y.2.2.2.1
  induction d with
  | zero =>
    intro j n mu la h1 h2 A
    refine V_iload C dL_law_23 rfl ?_
    refine V_aload_n C dL_law_25 rfl ?_
    refine V_slen C Y.2.1 Y.2.2.1 dL_law_26 ?_
    refine V_bipush C dL_law_27 (by decide +kernel) ?_
    refine V_isub C dL_law_29 ?_
    refine V_icmp_gt C 1938 dL_law_30 (by decide) (by omega) (by omega) (fun z => ?_) (fun z => ?_)
    · exact fin _ _ _ _ _ _ (by omega) (by omega)
    · omega
  | succ d ih =>
    intro j n mu la h1 h2 A
    refine V_iload C dL_law_23 rfl ?_
    refine V_aload_n C dL_law_25 rfl ?_
    refine V_slen C Y.2.1 Y.2.2.1 dL_law_26 ?_
    refine V_bipush C dL_law_27 (by decide +kernel) ?_
    refine V_isub C dL_law_29 ?_
    refine V_icmp_gt C 1938 dL_law_30 (by decide) (by omega) (by omega) (fun z => ?_) (fun z => ?_)
    · exact fin _ _ _ _ _ _ (by omega) (by omega)
    · refine law_case Y A ⟨by omega, by omega⟩ ⟨by omega, by omega⟩ ⟨by omega, by omega⟩ (fun n1 mu2 la2 A2 => law_next C ?_)
      have e := ih (j + 1) n1 mu2 la2 (by omega) (by omega) (by rw [show (1000000 : Int) + 3000 * ((j + 1 : Nat) : Int) = 1000000 + 3000 * (j : Int) + 3000 by omega]; exact A2)
      rw [show (6 * ((j + 1 : Nat) : Int)) = 6 * (j : Int) + 6 by omega] at e
      exact e
end LP
/-- the same with less room -/
theorem W.smaller {p : Program} {l : Launch} {e : Env} {R R' : Room} {s : State} {m : MethodId} {args : Array Value} {below : List Frame} {meth : Method} {c : Code} {H : Heap} {locs : List Loc} {cells slots : Nat} {Q : State → Prop} {g : JFrame} (h1 : R'.frames ≤ R.frames) (h2 : R'.cells ≤ R.cells) (h3 : R'.slots ≤ R.slots) (h4 : R'.locals ≤ R.locals)
    (kk : W p l e R' s m args below meth c H locs cells slots Q g) : W p l e R s m args below meth c H locs cells slots Q g := fun T hT X => by
  refine kk T hT ⟨X.admits, X.cas, X.clock, X.frames, ?_, X.hears, X.method, X.code, X.here, X.tail, X.warmed, X.limits, X.bytes, X.same⟩
  have h := X.room
  simp only [State.hasRoom, Bool.and_eq_true, decide_eq_true_eq] at h ⊢
  obtain ⟨⟨⟨⟨q1, q2, q3, q4, q5, q6⟩, q7⟩, q8⟩, q9⟩ := h
  exact ⟨⟨⟨⟨by omega, by omega, by omega, by omega, by omega, q6⟩, by omega⟩, by omega⟩, q9⟩
def R12 : Room := { frames := 12, cells := 601024, slots := 7293034, locals := 360 }
theorem DoS.to {S S' : Sh} {z : Nat} (h9 : DoS S z (z + 1) (z + 50) (z + 248) (z + 251) (z + 265) (z + 274)) (T3 : ∀ x y, x < z + 288 → hasS S x y → hasS S' x y) : DoS S' z (z + 1) (z + 50) (z + 248) (z + 251) (z + 265) (z + 274) := by
  obtain ⟨d1, d2, d3, d4, d5, d6, d7, d8⟩ := h9
  exact ⟨T3 _ _ (by omega) d1, d2.of fun x y h1 h2 => T3 x y (by omega), d3.of fun x y h1 h2 => T3 x y (by omega), d4.of fun x y h1 h2 => T3 x y (by omega), d5.of fun x y h1 h2 => T3 x y (by omega), d6.of fun x y h1 h2 => T3 x y (by omega), d7.of fun x y h1 h2 => T3 x y (by omega), d8⟩
section LS
variable {X : Cx} {w M : Nat} {xs : Nat → Int32}
theorem lm_8 : ∀ w9 ∈ u_ws RX8 TX8 6, w9 ∈ wsL_law := fun _ h => List.mem_append_left _ (List.mem_append_left _ (List.mem_append_left _ (ow_8 _ h)))
theorem lm_9 : ∀ w9 ∈ u_ws RX9 TX9 24, w9 ∈ wsL_law := fun _ h => List.mem_append_left _ (List.mem_append_left _ (List.mem_append_left _ (ow_9 _ h)))
theorem lq_in {w9 : Cond} (h : w9 ∈ wsL_law0_r1) : w9 ∈ wsL_law := List.mem_append_left _ (List.mem_append_left _ (List.mem_append_left _ (by unfold wsL_law0; simp only [List.mem_append, h, true_or])))
theorem lq5_in {w9 : Cond} (h : w9 ∈ wsL_law0_r5) : w9 ∈ wsL_law := List.mem_append_left _ (List.mem_append_left _ (List.mem_append_left _ (by unfold wsL_law0; simp only [List.mem_append, h, true_or, or_true])))
theorem law_all (C : Ok X cL_law wsL_law RL (some .boolean) 12 7) (hX : va_X w M xs (xS X) (xS X).heap) (hw : w < gZ (xG X)) (hM : M ≤ 3072) (hz : gZ (xG X) = (xS X).heap.size) (hAO : GAO (xG X)) (hE : GE (xG X)) (hGX : GX (xG X)) (hGN : GN (xG X)) (hl9 : (xL X).stackTraces = false) (hR : 601024 ≤ (xR X).cells ∧ 7293034 ≤ (xR X).slots)
    (fin : ∀ (rr : Rg) (S : Sh) (n : Nat) (mu : Mem) (la : Lam) (k sl : Nat), k ≤ (xR X).cells → sl ≤ (xR X).slots → V X 1939 rr [.int (I32 1)] S n mu la k sl) (mu0 : Mem) (la0 : Lam) :
    V X 0 [some (.ref w), none, none, none, none, none, none] [] ([], fun _ => .inl (0, 0)) (gZ (xG X)) mu0 la0 0 0 := by
  obtain ⟨z, ez⟩ : ∃ z : Nat, z = gZ (xG X) := ⟨_, rfl⟩
  rw [← ez]
  refine V_newo C (ci := 6) (ks := ksX8) dL_law_0 rfl lm_8 tyX8 tyX8_ok (lq_in (by decide +kernel)) (lq_in (by decide +kernel)) (lq_in (by decide +kernel)) rfl ⟨by omega, by omega⟩ ?_
  refine V_dup C dL_law_3 rfl ?_
  refine V_callI (nA := 0) C dL_law_4 (i_X8 C.gp hAO (hasS_new _ _ _)) gL_law_X8_init (lq_in (by decide +kernel)) (lq_in (by decide +kernel)) (lq_in (by decide +kernel)) rfl rfl (by decide +kernel) rfl (by decide) (by decide) (Nat.le_of_ble_eq_true rfl) ⟨by omega, by omega⟩ rfl ?_
  rintro o1 S1 n1 mu1 la1 ⟨rfl, rfl, e1, m1, D1, b1, b2, b3, b4, b5, b6, b7, b8, b9⟩
  refine V_astore_n C dL_law_7 rfl (by decide) ?_
  refine V_newo C (ci := 7) (ks := ksX9) dL_law_8 rfl lm_9 tyX9 tyX9_ok (lq_in (by decide +kernel)) (lq_in (by decide +kernel)) (lq_in (by decide +kernel)) rfl ⟨by omega, by omega⟩ ?_
  refine V_dup C dL_law_11 rfl ?_
  refine V_callI (nA := 0) C dL_law_12 (i_X9 C.gp (hasS_new _ _ _)) gL_law_X9_init (lq5_in (by decide +kernel)) (lq_in (by decide +kernel)) (lq5_in (by decide +kernel)) rfl rfl (by decide +kernel) rfl (by decide) (by decide) (Nat.le_of_ble_eq_true rfl) ⟨by omega, by omega⟩ rfl ?_
  rintro o2 S2 n2 mu2 la2 ⟨rfl, rfl, e2, m2, M2, c1, c2, c3, c4⟩
  refine V_astore_n C dL_law_15 rfl (by decide) ?_
  refine V_iconst C dL_law_16 ?_
  refine V_newaL C (m := 1) 1 dL_law_17 (lq_in (by decide +kernel)) rfl (by decide) ⟨by omega, by omega⟩ ?_
  refine V_astore_n C dL_law_19 rfl (by decide) ?_
  refine V_iconst C dL_law_20 ?_
  refine V_istore C dL_law_21 rfl (by decide) ?_
  obtain ⟨S3, eS⟩ : ∃ S3, S3 = grow S2 (z + 305) (.inl (1, 1)) := ⟨_, rfl⟩
  have T2 : ∀ x y, x < z + 305 → hasS S2 x y → hasS S3 x y := fun x y h1 h2 => by rw [eS]; exact hasS_grow h2 (by omega)
  have T3 : ∀ x y, x < z + 288 → hasS S1 x y → hasS S3 x y := fun x y h1 h2 => T2 x y (by omega) (e2 x y (by omega) (by omega) (hasS_grow h2 (by omega)))
  have hD : DoS S3 z (z + 1) (z + 50) (z + 248) (z + 251) (z + 265) (z + 274) := DoS.to D1 T3
  have hO : hasS S3 (z + 305) (.inl (1, 1)) := by rw [eS]; exact hasS_new _ _ _
  have hMS : MoS S3 (z + 288) := by
    obtain ⟨y1, y2, y3, y4, y5, y6, y7, y8, y9, y10⟩ := M2
    exact ⟨T2 _ _ (by omega) y1, T2 _ _ (by omega) y2, T2 _ _ (by omega) y3, T2 _ _ (by omega) y4, T2 _ _ (by omega) y5, T2 _ _ (by omega) y6, fun k hk => T2 _ _ (by omega) (y7 k hk), T2 _ _ (by omega) y8, T2 _ _ (by omega) y9, T2 _ _ (by omega) y10⟩
  have u2 : ∀ x, x < z + 305 → ∀ i, zm mu2 (z + 305) x i = mu2 x i := fun x h1 i => zm_a _ _ (by omega)
  have u1 : ∀ x, x < z + 288 → ∀ i, zm mu2 (z + 305) x i = mu1 x i := fun x h1 i => (u2 x (by omega) i).trans (((m2 x (by omega) (by omega)).1 i).trans (zm_a _ _ (by omega)))
  have hB : Born z (zm mu2 (z + 305)) := by
    refine ⟨b1.of fun x h1 h2 i => u1 x (by omega) i, fun i => (u1 _ (by omega) i).trans (b2 i), fun k hk => (b3 k hk).of fun x h1 h2 i => u1 x (by omega) i, fun i => (u1 _ (by omega) i).trans (b4 i), fun i => (u1 _ (by omega) i).trans (b5 i), fun i => (u1 _ (by omega) i).trans (b6 i), fun k hk i => (u1 _ (by omega) i).trans (b7 k hk i), b8.of fun x h1 h2 i => u1 x (by omega) i, fun k hk i => (u1 _ (by omega) i).trans (b9 k hk i), fun i => (u2 _ (by omega) i).trans (c1 i), fun k h1 h2 i => (u2 _ (by omega) i).trans (c2 k h1 h2 i), fun i => ?_⟩
    refine (u2 _ (by omega) i).trans ((c3 i).trans ?_)
    exact zm_s _ _ _
  rw [show z + 1 + 287 + 1 + 16 = z + 305 from rfl, ← eS]
  refine V_mem (mu' := mwS z) (fun x h1 h2 => ?_) ?_
  · have e := same_all (G := xG X) (la := zl la2 (z + 305)) hD hO hB (x - z) (by omega)
    rw [show z + (x - z) = x by omega] at e
    exact e
  · have Y : Lw X S3 xs w M z (z + 1) (z + 50) (z + 248) (z + 251) (z + 265) (z + 274) (z + 288) (z + 305) := ⟨C, hX, ⟨by omega, hw⟩, hM, hO, hMS, hD, Od_start z, hE, hGX, hGN, hl9⟩
    have L := law_loop (k0 := 306) (s0 := 22280) Y ⟨by omega, by omega⟩ (fun i n mu la k sl h1 h2 => V_iconst C dL_law_1938 (fin _ _ _ _ _ _ _ h1 h2)) 512 0 (z + 306) (mwS z) (zl la2 (z + 305)) (by omega) (by omega) (Inv_start z)
    exact L
end LS
