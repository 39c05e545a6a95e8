/-! THE LAW OF p32: docking, at an edge, afloat -/
section LB
variable {X : Cx} {Po : Option Value → Sh → Nat → Mem → Lam → Prop} {S : Sh} {n : Nat} {mu : Mem} {la : Lam} {w o : Nat} {z : Int32} {ww a b was : Int}
-- L_acts
theorem a_2 (C : Ok X cL_acts wsL_acts RL (some .boolean) 9 21) (E : En X 1 6 Po) (hcl : (xR X).cells = 1) (hsl : (xR X).slots = 6) (hL : LwS S w) (hR : R32 mu) (ha : 0 ≤ a ∧ a < mu w 2) (hb : 0 ≤ b ∧ b < mu w 2) (hm : mu w 2 ≤ 5) (hs : 0 ≤ mu w 3 ∧ mu w 3 ≤ 16) {side : Int} (hside : ww / 25 % 5 = side) (hw : 0 ≤ ww ∧ ww < 100000) {m1 m2 : Mem} {an : Int} (han : -2147483648 ≤ an ∧ an ≤ 2147483647)
    (hM1 : (jX mu w b = 0 ∨ (jX mu w b = 2 ∧ side < 4)) → Ct (xG X) (xL X) yL_docks wsL_docks 8 1 6 [.ref o, .int (I32 a), .int (I32 b), .int (I32 side)] S n mu la (Lq S (-10000003) mu la))
    (hP1 : (jX mu w b = 0 ∨ (jX mu w b = 2 ∧ side < 4)) → ∀ n1 : Nat, Po (some (.int (I32 1))) S n1 mu la)
    (hM2 : ¬ (jX mu w b = 0 ∨ (jX mu w b = 2 ∧ side < 4)) → Ct (xG X) (xL X) yL_docks wsL_docks 8 1 6 [.ref o, .int (I32 a), .int (I32 b), .int (I32 side)] S n mu la (Lq S an m1 la) ∧ jD m1 w a b side m2 an ∧ R32 m1 ∧ (0 ≤ a ∧ a < m1 w 2) ∧ m1 w 2 ≤ 5 ∧ (0 ≤ m1 w 3 ∧ m1 w 3 ≤ 16) ∧ ∀ n1 : Nat, Po (some (.int (I32 1))) S n1 m2 la) :
    V X 433 [some (.ref o), some (.ref w), some (.ref (w + 1)), some (.ref (w + 2)), some (.ref (w + 3)), some (.int z), some (.int (I32 ww)), some (.int (I32 a)), some (.int (I32 b)), some (.int (I32 was)), none, none, none, none, none, none, none, none, none, none, none] [] S n mu la 0 0 := by
  have bx : 0 ≤ jX mu w b ∧ jX mu w b ≤ 2 := by unfold jX; (repeat' split) <;> omega
  have bs : 0 ≤ side ∧ side < 5 := by omega
  refine V_iload C dL_acts_433 rfl ?_
  refine V_bipush C dL_acts_435 (by decide +kernel) ?_
  refine V_idiv C dL_acts_437 (by omega) (by omega) ?_
  refine V_iconst C dL_acts_438 ?_
  refine V_irem C dL_acts_439 (by omega) (by omega) ?_
  rw [hside]
  refine V_istore C dL_acts_440 rfl (by decide) ?_
  refine V_aload_n C dL_acts_442 rfl ?_
  refine V_aload_n C dL_acts_443 rfl ?_
  refine V_aload_n C dL_acts_444 rfl ?_
  refine V_iload C dL_acts_445 rfl ?_
  refine V_callSD (nA := 4) C dL_acts_447 (l_state C.gp hL hR ⟨by omega, by omega⟩ hs) gL_acts_L_state rfl (by decide +kernel) rfl (by decide) (by decide) (Nat.le_of_ble_eq_true rfl) ⟨by omega, by omega⟩ rfl ?_
  clear hside hw
  generalize jX mu w b = there at *
  have bad : (there = 0 ∨ (there = 2 ∧ side < 4)) → V X 469 [some (.ref o), some (.ref w), some (.ref (w + 1)), some (.ref (w + 2)), some (.ref (w + 3)), some (.int z), some (.int (I32 ww)), some (.int (I32 a)), some (.int (I32 b)), some (.int (I32 was)), none, none, some (.int (I32 side)), some (.int (I32 there)), none, none, none, none, none, none, none] [] S n mu la 0 0 := by
    intro q
    have hM := hM1 q
    have hP := hP1 q
    refine V_aload_n C dL_acts_469 rfl ?_
    refine V_iload C dL_acts_470 rfl ?_
    refine V_iload C dL_acts_472 rfl ?_
    refine V_iload C dL_acts_474 rfl ?_
    refine V_callSHQ (nA := 4) C dL_acts_476 hM gL_acts_L_docks rfl (by decide +kernel) rfl (by decide) (by decide) (Nat.le_of_ble_eq_true rfl) ⟨by omega, by omega⟩ rfl ?_
    intro n1
    refine V_ldcI C (v := -10000003) dL_acts_479 (by decide +kernel) ?_
    refine V_icmp_ne C 488 dL_acts_481 (by decide) (by omega) (by omega) (fun c => ?_) (fun c => ?_)
    · exact absurd rfl c
    refine V_iconst C dL_acts_484 ?_
    refine V_goto C 489 dL_acts_485 (by decide) ?_
    refine V_zreturn C E (by first | exact Or.inl rfl | exact Or.inr rfl | simp) dL_acts_489 (by omega) (by omega) ?_
    exact hP n1
  have good : ¬ (there = 0 ∨ (there = 2 ∧ side < 4)) → V X 490 [some (.ref o), some (.ref w), some (.ref (w + 1)), some (.ref (w + 2)), some (.ref (w + 3)), some (.int z), some (.int (I32 ww)), some (.int (I32 a)), some (.int (I32 b)), some (.int (I32 was)), none, none, some (.int (I32 side)), some (.int (I32 there)), none, none, none, none, none, none, none] [] S n mu la 0 0 := by
    intro q
    obtain ⟨hM, hD, hR1, ha1, hm1, hs1, hP⟩ := hM2 q
    refine V_aload_n C dL_acts_490 rfl ?_
    refine V_iload C dL_acts_491 rfl ?_
    refine V_iload C dL_acts_493 rfl ?_
    refine V_iload C dL_acts_495 rfl ?_
    refine V_callSHQ (nA := 4) C dL_acts_497 hM gL_acts_L_docks rfl (by decide +kernel) rfl (by decide) (by decide) (Nat.le_of_ble_eq_true rfl) ⟨by omega, by omega⟩ rfl ?_
    intro n1
    refine V_aload_n C dL_acts_500 rfl ?_
    refine V_aload_n C dL_acts_501 rfl ?_
    refine V_aload_n C dL_acts_502 rfl ?_
    refine V_aload C dL_acts_503 rfl ?_
    refine V_iload C dL_acts_505 rfl ?_
    refine V_iload C dL_acts_507 rfl ?_
    refine V_iload C dL_acts_509 rfl ?_
    refine V_callS2D (nA := 7) C dL_acts_511 (l_docked C.gp hL hR1 ha1 ⟨by omega, by omega⟩ ⟨by omega, by omega⟩ hm1 hs1 hD) gL_acts_L_docked rfl (by decide +kernel) rfl (by decide) (by decide) (Nat.le_of_ble_eq_true rfl) ⟨by omega, by omega⟩ rfl ?_
    refine V_icmp_ne C 521 dL_acts_514 (by decide) (by omega) (by omega) (fun c => ?_) (fun c => ?_)
    · exact absurd rfl c
    refine V_iconst C dL_acts_517 ?_
    refine V_goto C 522 dL_acts_518 (by decide) ?_
    refine V_zreturn C E (by first | exact Or.inl rfl | exact Or.inr rfl | simp) dL_acts_522 (by omega) (by omega) ?_
    exact hP n1
  refine V_istore C dL_acts_450 rfl (by decide) ?_
  refine V_iload C dL_acts_452 rfl ?_
  refine V_if_eq C 469 dL_acts_454 (by decide) (by omega) (fun c => ?_) (fun c => ?_)
  · exact bad (Or.inl c)
  refine V_iload C dL_acts_457 rfl ?_
  refine V_iconst C dL_acts_459 ?_
  refine V_icmp_ne C 490 dL_acts_460 (by decide) (by omega) (by omega) (fun c1 => ?_) (fun c1 => ?_)
  · exact good (fun q => q.elim c (fun q => c1 q.1))
  refine V_iload C dL_acts_463 rfl ?_
  refine V_iconst C dL_acts_465 ?_
  refine V_icmp_ge C 490 dL_acts_466 (by decide) (by omega) (by omega) (fun c2 => ?_) (fun c2 => ?_)
  · exact good (fun q => q.elim c (fun q => by omega))
  exact bad (Or.inr ⟨c1, by omega⟩)
theorem a_6 (C : Ok X cL_acts wsL_acts RL (some .boolean) 9 21) (E : En X 1 6 Po) (hcl : (xR X).cells = 1) (hsl : (xR X).slots = 6) (hL : LwS S w) {side : Int} (hside : ww / 25 % 4 = side) (hw : 0 ≤ ww ∧ ww < 100000) {m1 m2 : Mem}
    (hM : Ct (xG X) (xL X) yL_edges wsL_edges 8 1 6 [.ref o, .int (I32 a), .int (I32 side)] S n mu la (Lq S (jG m2 w) m1 la)) (hD : jE m1 w a side m2) (hR1 : R32 m1) (ha1 : 0 ≤ a ∧ a < m1 w 2) (hm1 : m1 w 2 ≤ 5) (hs1 : 0 ≤ m1 w 3 ∧ m1 w 3 ≤ 16) (hs2 : 0 ≤ m2 w 3 ∧ m2 w 3 ≤ 16) (hR2 : R32 m2)
    (hP : ∀ n1 : Nat, Po (some (.int (I32 1))) S n1 m2 la) :
    V X 523 [some (.ref o), some (.ref w), some (.ref (w + 1)), some (.ref (w + 2)), some (.ref (w + 3)), some (.int z), some (.int (I32 ww)), some (.int (I32 a)), some (.int (I32 b)), some (.int (I32 was)), none, none, none, none, none, none, none, none, none, none, none] [] S n mu la 0 0 := by
  have bs : 0 ≤ side ∧ side < 4 := by omega
  have gb := jGG_b (m2 (w + 1)) (m2 w 3).toNat
  have ge : jG m2 w = jGG (m2 (w + 1)) (m2 w 3).toNat := rfl
  refine V_aload_n C dL_acts_523 rfl ?_
  refine V_iload C dL_acts_524 rfl ?_
  refine V_iload C dL_acts_526 rfl ?_
  refine V_bipush C dL_acts_528 (by decide +kernel) ?_
  refine V_idiv C dL_acts_530 (by omega) (by omega) ?_
  refine V_iconst C dL_acts_531 ?_
  refine V_irem C dL_acts_532 (by omega) (by omega) ?_
  rw [hside]
  refine V_callSHQ (nA := 3) C dL_acts_533 hM gL_acts_L_edges rfl (by decide +kernel) rfl (by decide) (by decide) (Nat.le_of_ble_eq_true rfl) ⟨by omega, by omega⟩ rfl ?_
  intro n1
  refine V_aload_n C dL_acts_536 rfl ?_
  refine V_aload_n C dL_acts_537 rfl ?_
  refine V_aload_n C dL_acts_538 rfl ?_
  refine V_aload C dL_acts_539 rfl ?_
  refine V_iload C dL_acts_541 rfl ?_
  refine V_iload C dL_acts_543 rfl ?_
  refine V_bipush C dL_acts_545 (by decide +kernel) ?_
  refine V_idiv C dL_acts_547 (by omega) (by omega) ?_
  refine V_iconst C dL_acts_548 ?_
  refine V_irem C dL_acts_549 (by omega) (by omega) ?_
  rw [hside]
  refine V_callSD (nA := 6) C dL_acts_550 (l_edged C.gp hL hR1 ha1 ⟨by omega, by omega⟩ hm1 hs1 hD hs2 hR2) gL_acts_L_edged rfl (by decide +kernel) rfl (by decide) (by decide) (Nat.le_of_ble_eq_true rfl) ⟨by omega, by omega⟩ rfl ?_
  refine V_icmp_ne C 560 dL_acts_553 (by decide) (by omega) (by omega) (fun c => ?_) (fun c => ?_)
  · exact absurd rfl c
  refine V_iconst C dL_acts_556 ?_
  refine V_goto C 561 dL_acts_557 (by decide) ?_
  refine V_zreturn C E (by first | exact Or.inl rfl | exact Or.inr rfl | simp) dL_acts_561 (by omega) (by omega) ?_
  exact hP n1
/-- a floating group's box among the law's rows -/
def jB (mu : Mem) (w : Nat) (g x y u v : Int) : Mem := up (up (up (up (up (up mu (w + 3) (mu w 4) g) w 4 (mu w 4 + 1)) (w + 3) (5 + 4 * g) x) (w + 3) (6 + 4 * g) y) (w + 3) (7 + 4 * g) u) (w + 3) (8 + 4 * g) v
theorem a_9 (C : Ok X cL_acts wsL_acts RL (some .boolean) 9 21) (E : En X 1 6 Po) (hcl : (xR X).cells = 1) (hsl : (xR X).slots = 6) (hL : LwS S w) (hR : R32 mu) (ha : 0 ≤ a ∧ a < mu w 2) (hm : mu w 2 ≤ 5) (hs : 0 ≤ mu w 3 ∧ mu w 3 ≤ 16) (hw : 0 ≤ ww ∧ ww < 100000) {m1 m3 : Mem} {g : Int} (hK : jK mu w a m1) (hfg : jFg m1 w g) (h4 : 0 ≤ m1 w 4 ∧ m1 w 4 ≤ 4)
    (hM : Ct (xG X) (xL X) yL_floats wsL_floats 8 1 6 [.ref o, .int (I32 a), .int (I32 (ww / 5 % 120)), .int (I32 (ww / 7 % 80)), .int (I32 (1 + ww / 11 % 60)), .int (I32 (1 + ww / 13 % 40))] S n (jB (jF m1 w a g) w g (ww / 5 % 120) (ww / 7 % 80) (1 + ww / 11 % 60) (1 + ww / 13 % 40)) la (Lq S (m1 w 4 + 1) m3 la)) (hm3 : m3 w 4 = m1 w 4 + 1)
    (hP : ∀ n1 : Nat, Po (some (.int (I32 1))) S n1 m3 la) :
    V X 562 [some (.ref o), some (.ref w), some (.ref (w + 1)), some (.ref (w + 2)), some (.ref (w + 3)), some (.int z), some (.int (I32 ww)), some (.int (I32 a)), some (.int (I32 b)), some (.int (I32 was)), none, none, none, none, none, none, none, none, none, none, none] [] S n mu la 0 0 := by
  have hg := hL.1
  have hf := hL.2.2.2
  obtain ⟨R1, e2⟩ := jK_R hR (by omega) hs.1 hK
  have gb := hfg.1
  have F4 := jF_x m1 w a g (show w ≠ w + 2 by omega) 4
  refine V_aload_n C dL_acts_562 rfl ?_
  refine V_aload_n C dL_acts_563 rfl ?_
  refine V_aload_n C dL_acts_564 rfl ?_
  refine V_aload C dL_acts_565 rfl ?_
  refine V_iload C dL_acts_567 rfl ?_
  refine V_callS2D (nA := 5) C dL_acts_569 (l_takes C.gp hL hR ha hm hs hK) gL_acts_L_takes rfl (by decide +kernel) rfl (by decide) (by decide) (Nat.le_of_ble_eq_true rfl) ⟨by omega, by omega⟩ rfl ?_
  refine V_aload_n C dL_acts_572 rfl ?_
  refine V_aload_n C dL_acts_573 rfl ?_
  refine V_iload C dL_acts_574 rfl ?_
  refine V_callSD (nA := 3) C dL_acts_576 (l_founds C.gp hL R1 ⟨by omega, by omega⟩ (by omega) hfg.1 hfg.2.1 hfg.2.2) gL_acts_L_founds rfl (by decide +kernel) rfl (by decide) (by decide) (Nat.le_of_ble_eq_true rfl) ⟨by omega, by omega⟩ rfl ?_
  unfold jB at hM
  rw [F4] at hM
  generalize jF m1 w a g = m at *
  refine V_istore C dL_acts_579 rfl (by decide) ?_
  refine V_aload C dL_acts_581 rfl ?_
  refine V_aload_n C dL_acts_583 rfl ?_
  refine V_iconst C dL_acts_584 ?_
  refine V_iald C dL_acts_585 hg (by first | assumption | decide) (by omega) ?_
  rw [F4]
  refine V_iload C dL_acts_586 rfl ?_
  refine V_iast C dL_acts_588 hf (by first | assumption | decide) (by omega) ?_
  have i4 : up m (w + 3) (m1 w 4) g w 4 = m1 w 4 := by rw [up_e, if_neg (by omega), F4]
  refine V_aload_n C dL_acts_589 rfl ?_
  refine V_iconst C dL_acts_590 ?_
  refine V_dup2 C dL_acts_591 rfl rfl ?_
  refine V_iald C dL_acts_592 hg (by first | assumption | decide) (by omega) ?_
  rw [i4]
  refine V_iconst C dL_acts_593 ?_
  refine V_iadd C dL_acts_594 ?_
  refine V_iast C dL_acts_595 hg (by first | assumption | decide) (by omega) ?_
  generalize up (up m (w + 3) (m1 w 4) g) w 4 (m1 w 4 + 1) = m4 at *
  refine V_aload C dL_acts_596 rfl ?_
  refine V_iconst C dL_acts_598 ?_
  refine V_iconst C dL_acts_599 ?_
  refine V_iload C dL_acts_600 rfl ?_
  refine V_imul C dL_acts_602 ?_
  refine V_iadd C dL_acts_603 ?_
  refine V_iload C dL_acts_604 rfl ?_
  refine V_iconst C dL_acts_606 ?_
  refine V_idiv C dL_acts_607 (by omega) (by omega) ?_
  refine V_bipush C dL_acts_608 (by decide +kernel) ?_
  generalize ex : ww / 5 % 120 = x at *
  have bx : 0 ≤ ww / 5 := by omega
  refine V_irem C dL_acts_610 (by omega) (by omega) ?_
  rw [ex]
  refine V_iast C dL_acts_611 hf (by first | assumption | decide) (by omega) ?_
  refine V_aload C dL_acts_612 rfl ?_
  refine V_bipush C dL_acts_614 (by decide +kernel) ?_
  refine V_iconst C dL_acts_616 ?_
  refine V_iload C dL_acts_617 rfl ?_
  refine V_imul C dL_acts_619 ?_
  refine V_iadd C dL_acts_620 ?_
  refine V_iload C dL_acts_621 rfl ?_
  refine V_bipush C dL_acts_623 (by decide +kernel) ?_
  refine V_idiv C dL_acts_625 (by omega) (by omega) ?_
  refine V_bipush C dL_acts_626 (by decide +kernel) ?_
  generalize ey : ww / 7 % 80 = y at *
  have by9 : 0 ≤ ww / 7 := by omega
  refine V_irem C dL_acts_628 (by omega) (by omega) ?_
  rw [ey]
  refine V_iast C dL_acts_629 hf (by first | assumption | decide) (by omega) ?_
  refine V_aload C dL_acts_630 rfl ?_
  refine V_bipush C dL_acts_632 (by decide +kernel) ?_
  refine V_iconst C dL_acts_634 ?_
  refine V_iload C dL_acts_635 rfl ?_
  refine V_imul C dL_acts_637 ?_
  refine V_iadd C dL_acts_638 ?_
  refine V_iconst C dL_acts_639 ?_
  refine V_iload C dL_acts_640 rfl ?_
  refine V_bipush C dL_acts_642 (by decide +kernel) ?_
  refine V_idiv C dL_acts_644 (by omega) (by omega) ?_
  refine V_bipush C dL_acts_645 (by decide +kernel) ?_
  generalize eu : ww / 11 % 60 = u at *
  have bu : 0 ≤ ww / 11 := by omega
  refine V_irem C dL_acts_647 (by omega) (by omega) ?_
  rw [eu]
  refine V_iadd C dL_acts_648 ?_
  refine V_iast C dL_acts_649 hf (by first | assumption | decide) (by omega) ?_
  refine V_aload C dL_acts_650 rfl ?_
  refine V_bipush C dL_acts_652 (by decide +kernel) ?_
  refine V_iconst C dL_acts_654 ?_
  refine V_iload C dL_acts_655 rfl ?_
  refine V_imul C dL_acts_657 ?_
  refine V_iadd C dL_acts_658 ?_
  refine V_iconst C dL_acts_659 ?_
  refine V_iload C dL_acts_660 rfl ?_
  refine V_bipush C dL_acts_662 (by decide +kernel) ?_
  refine V_idiv C dL_acts_664 (by omega) (by omega) ?_
  refine V_bipush C dL_acts_665 (by decide +kernel) ?_
  generalize ev : ww / 13 % 40 = v at *
  have bv : 0 ≤ ww / 13 := by omega
  refine V_irem C dL_acts_667 (by omega) (by omega) ?_
  rw [ev]
  refine V_iadd C dL_acts_668 ?_
  refine V_iast C dL_acts_669 hf (by first | assumption | decide) (by omega) ?_
  have t5 : up (up (up (up m4 (w + 3) (5 + 4 * g) x) (w + 3) (6 + 4 * g) y) (w + 3) (7 + 4 * g) (1 + u)) (w + 3) (8 + 4 * g) (1 + v) (w + 3) (5 + 4 * g) = x := by
    rw [up_e, if_neg (by omega), up_e, if_neg (by omega), up_e, if_neg (by omega), up_s]
  have t6 : up (up (up (up m4 (w + 3) (5 + 4 * g) x) (w + 3) (6 + 4 * g) y) (w + 3) (7 + 4 * g) (1 + u)) (w + 3) (8 + 4 * g) (1 + v) (w + 3) (6 + 4 * g) = y := by
    rw [up_e, if_neg (by omega), up_e, if_neg (by omega), up_s]
  have t7 : up (up (up (up m4 (w + 3) (5 + 4 * g) x) (w + 3) (6 + 4 * g) y) (w + 3) (7 + 4 * g) (1 + u)) (w + 3) (8 + 4 * g) (1 + v) (w + 3) (7 + 4 * g) = 1 + u := by
    rw [up_e, if_neg (by omega), up_s]
  have t8 : up (up (up (up m4 (w + 3) (5 + 4 * g) x) (w + 3) (6 + 4 * g) y) (w + 3) (7 + 4 * g) (1 + u)) (w + 3) (8 + 4 * g) (1 + v) (w + 3) (8 + 4 * g) = 1 + v := up_s _ _ _ _
  generalize up (up (up (up m4 (w + 3) (5 + 4 * g) x) (w + 3) (6 + 4 * g) y) (w + 3) (7 + 4 * g) (1 + u)) (w + 3) (8 + 4 * g) (1 + v) = m5 at *
  refine V_aload_n C dL_acts_670 rfl ?_
  refine V_iload C dL_acts_671 rfl ?_
  refine V_aload C dL_acts_673 rfl ?_
  refine V_iconst C dL_acts_675 ?_
  refine V_iconst C dL_acts_676 ?_
  refine V_iload C dL_acts_677 rfl ?_
  refine V_imul C dL_acts_679 ?_
  refine V_iadd C dL_acts_680 ?_
  refine V_iald C dL_acts_681 hf (by first | assumption | decide) (by omega) ?_
  rw [t5]
  refine V_aload C dL_acts_682 rfl ?_
  refine V_bipush C dL_acts_684 (by decide +kernel) ?_
  refine V_iconst C dL_acts_686 ?_
  refine V_iload C dL_acts_687 rfl ?_
  refine V_imul C dL_acts_689 ?_
  refine V_iadd C dL_acts_690 ?_
  refine V_iald C dL_acts_691 hf (by first | assumption | decide) (by omega) ?_
  rw [t6]
  refine V_aload C dL_acts_692 rfl ?_
  refine V_bipush C dL_acts_694 (by decide +kernel) ?_
  refine V_iconst C dL_acts_696 ?_
  refine V_iload C dL_acts_697 rfl ?_
  refine V_imul C dL_acts_699 ?_
  refine V_iadd C dL_acts_700 ?_
  refine V_iald C dL_acts_701 hf (by first | assumption | decide) (by omega) ?_
  rw [t7]
  refine V_aload C dL_acts_702 rfl ?_
  refine V_bipush C dL_acts_704 (by decide +kernel) ?_
  refine V_iconst C dL_acts_706 ?_
  refine V_iload C dL_acts_707 rfl ?_
  refine V_imul C dL_acts_709 ?_
  refine V_iadd C dL_acts_710 ?_
  refine V_iald C dL_acts_711 hf (by first | assumption | decide) (by omega) ?_
  rw [t8]
  refine V_callSHQ (nA := 6) C dL_acts_712 hM gL_acts_L_floats rfl (by decide +kernel) rfl (by decide) (by decide) (Nat.le_of_ble_eq_true rfl) ⟨by omega, by omega⟩ rfl ?_
  intro n1
  refine V_aload_n C dL_acts_715 rfl ?_
  refine V_iconst C dL_acts_716 ?_
  refine V_iald C dL_acts_717 hg (by first | assumption | decide) (by omega) ?_
  rw [hm3]
  refine V_icmp_ne C 725 dL_acts_718 (by decide) (by omega) (by omega) (fun c => ?_) (fun c => ?_)
  · exact absurd rfl c
  refine V_iconst C dL_acts_721 ?_
  refine V_goto C 726 dL_acts_722 (by decide) ?_
  refine V_zreturn C E (by first | exact Or.inl rfl | exact Or.inr rfl | simp) dL_acts_726 (by omega) (by omega) ?_
  exact hP n1
end LB
