/-! the least sizes: the class's pass, the reference's pass -/
def VC (Q : Mem) (x ax : Int) : Int := Q 4 (2 * x + ax)
def VR (u : Int → Int) (Z : Mem) (x ax : Int) : Int := if ax = 0 then Z 7 (u x) else Z 8 (u x)
theorem msG_1 (P : Mem) (f : Int → Int) (nd ax : Int) : ∀ j : Nat, (msG P f nd ax j).1 = wr (smG (msO P f nd ax) j)
  | 0 => by show (0 : Int) = wr 0; rw [wr_id (by omega)]
  | j + 1 => by
    show wr ((msG P f nd ax j).1 + msO P f nd ax j) = wr (smG (msO P f nd ax) j + msO P f nd ax j)
    rw [msG_1 P f nd ax j, wr_addl]
theorem msG_2 (P : Mem) (f : Int → Int) (nd ax : Int) : ∀ j : Nat, (msG P f nd ax j).2 = mmG (msO P f nd ax) j
  | 0 => rfl
  | j + 1 => by
    show max (msG P f nd ax j).2 (msO P f nd ax j) = if mmG (msO P f nd ax) j < msO P f nd ax j then msO P f nd ax j else mmG (msO P f nd ax) j
    rw [msG_2 P f nd ax j]
    omega
theorem mmG_gmx {f : Int → Int} {L : Mem} {x ax : Int} : ∀ m : Nat, mmG (fun j => f (2 * mbrF L x j + ax)) m = gmx f L x ax m
  | 0 => rfl
  | m + 1 => by
    show (if mmG _ m < f (2 * mbrF L x m + ax) then f (2 * mbrF L x m + ax) else mmG _ m) = max (gmx f L x ax m) (f (2 * mbrF L x m + ax))
    rw [mmG_gmx m]
    omega
theorem smG_wr_id (a : Int) : wr (wr a) = wr a := by have := wr_addl a 0; rw [Int.add_zero, Int.add_zero] at this; exact this
/-- one node measured -/
theorem msF_e {L Q : Mem} {f : Int → Int} (W : Wf L (-1)) (F : Fu L) (hf : LeB f) (hR : R32 Q) (hM : MoT Q L) {nd ax : Int} (hn : InT L nd) (ha : ax = 0 ∨ ax = 1) :
    msF Q L f nd ax = up Q 4 (2 * nd + ax) (if isZ nd then (if L 5 (nd - 32) = ax then wr (smG (fun j => VC Q (mbrF L nd j) ax) (L 2 nd).toNat + L 2 nd - 1) else mmG (fun j => VC Q (mbrF L nd j) ax) (L 2 nd).toNat) else gmx f L nd ax (L 2 nd).toNat + ax) := by
  have b := hn.rg
  have nn := W.mb.nng nd (by omega) (by omega)
  have c16 := W.cnt16 F (h := nd) ⟨by omega, by omega⟩
  have me : ∀ j : Int, mo Q nd j = mbrF L nd j := fun j => mo_e W F hM ⟨by omega, by omega⟩
  unfold msF
  by_cases z : isZ nd
  · have z' : 32 ≤ nd ∧ nd < 47 := z
    have ms : ∀ j : Int, 0 ≤ j → j < ((L 2 nd).toNat : Int) → msO Q f nd ax j = VC Q (mbrF L nd j) ax := by
      intro j h1 h2
      have m := (kidT W z ⟨h1, by omega⟩).rg
      unfold msO
      rw [if_pos z', me, gK_in ⟨by omega, by omega⟩ (by decide)]
      rfl
    have e : msE Q L f nd ax = if L 5 (nd - 32) = ax then wr (smG (fun j => VC Q (mbrF L nd j) ax) (L 2 nd).toNat) + L 2 nd - 1 else mmG (fun j => VC Q (mbrF L nd j) ax) (L 2 nd).toNat := by
      unfold msE
      simp only [gL_2 (L := L) (i := nd) ⟨by omega, by omega⟩, gL_5 (L := L) (i := nd - 32) ⟨by omega, by omega⟩, msG_1, msG_2]
      rw [smG_ext _ ms, mmG_ext _ ms]
      by_cases y : L 5 (nd - 32) = ax
      · rw [if_pos ⟨z', y⟩, if_pos y]
      · rw [if_neg (fun q => y q.2), if_neg (fun q => q.1 z'), if_neg y]
    rw [if_pos z, e]
    by_cases y : L 5 (nd - 32) = ax
    · rw [if_pos y, if_pos y]
      unfold sK puF
      rw [wr_id (x := 2 * nd + ax) (by omega), if_pos ⟨by omega, by omega⟩, show wr (smG (fun j => VC Q (mbrF L nd j) ax) (L 2 nd).toNat) + L 2 nd - 1 = wr (smG (fun j => VC Q (mbrF L nd j) ax) (L 2 nd).toNat) + (L 2 nd - 1) by omega, wr_addl]
      congr 1
      congr 1
      omega
    · rw [if_neg y, if_neg y]
      have mb := mmG_b (f := fun j => VC Q (mbrF L nd j) ax) (c := 2147483647) (by omega) (L 2 nd).toNat (fun o _ _ => (hR 4 _).2)
      exact sK_in ⟨by omega, by omega⟩ (by decide) (by omega)
  · have z' : ¬ (32 ≤ nd ∧ nd < 47) := z
    have h32 : nd < 32 := by omega
    have ms : ∀ j : Int, 0 ≤ j → j < ((L 2 nd).toNat : Int) → msO Q f nd ax j = f (2 * mbrF L nd j + ax) := by
      intro j h1 h2
      obtain ⟨a, c, -⟩ := mbrF_get W.mb (h := nd) (i := j) ⟨by omega, by omega⟩ ⟨h1, by omega⟩
      have d := W.memG a (by omega)
      unfold msO gR
      rw [if_neg z', me, wr_id (by omega), if_pos ⟨by omega, by omega⟩]
    have g := gmx_b W hf (x := nd) ⟨b.1, h32⟩ ha (L 2 nd).toNat (by omega)
    have e : msE Q L f nd ax = gmx f L nd ax (L 2 nd).toNat + ax := by
      unfold msE
      simp only [gL_2 (L := L) (i := nd) ⟨by omega, by omega⟩, msG_2]
      rw [mmG_ext _ ms, mmG_gmx, if_neg (fun q => z' q.1)]
      rcases ha with rfl | rfl
      · rw [if_neg (fun q => absurd q.2 (by omega))]; omega
      · rw [if_pos ⟨z', rfl⟩]
    rw [if_neg z, e]
    exact sK_in ⟨by omega, by omega⟩ (by decide) (by omega)
theorem WE.cong {f : Int → Int} {L : Mem} {V V' : Int → Int → Int} (W : Wf L (-1)) {x : Int} (hx : 16 ≤ x ∧ x < 47) (h : WE f L V x) (he : ∀ ax, V' x ax = V x ax) (hk : ∀ (j ax : Int), isZ x → 0 ≤ j → j < L 2 x → V' (mbrF L x j) ax = V (mbrF L x j) ax) : WE f L V' x := by
  intro ax ha
  have nn := W.mb.nng x (by omega) (by omega)
  rw [he, h ax ha]
  by_cases z : isZ x
  · have e : ∀ j : Int, 0 ≤ j → j < ((L 2 x).toNat : Int) → V (mbrF L x j) ax = V' (mbrF L x j) ax := fun j h1 h2 => (hk j ax z h1 (by omega)).symm
    rw [if_pos z, if_pos z, smG_ext _ e, mmG_ext _ e]
  · rw [if_neg z, if_neg z]
theorem mdG_e {L : Mem} {f : Int → Int} (W : Wf L (-1)) (F : Fu L) (hf : LeB f) : ∀ (r : Nat) (Q : Mem), R32 Q → MoT Q L → Ord L Q → (r : Int) ≤ Q 0 9 → (∀ k : Int, r ≤ k → k < Q 0 9 → WE f L (VC Q) (Q 2 k)) →
    (∀ k : Int, 0 ≤ k → k < Q 0 9 → WE f L (VC (mdG L f r Q)) (Q 2 k)) ∧ ∀ (k : Nat) (i : Int), k ≠ 4 → mdG L f r Q k i = Q k i
  | 0, Q, _, _, _, _, h => ⟨fun k h1 h2 => h k h1 h2, fun _ _ _ => rfl⟩
  | r + 1, Q, hR, hM, O, hr, h => by
    have n0 := O.n0
    have hn := O.rng r (by omega) (by omega)
    have b := hn.rg
    have g2 : gK Q 2 31 r = Q 2 r := gK_in ⟨by omega, by omega⟩ (by decide)
    have nself : L 0 (Q 2 r) ≠ Q 2 r := by
      intro e
      rcases hn.hol W with z | z
      · rw [e] at z; omega
      · obtain ⟨r9, hr9⟩ := W.rank
        have := hr9 _ b.1 b.2 z.1 z.2
        rw [e] at this; omega
    have hR1 : R32 (msF Q L f (Q 2 r) 0) := R32_sK hR _ _ _ _
    have q1k : ∀ (k : Nat) (i : Int), k ≠ 4 → msF Q L f (Q 2 r) 0 k i = Q k i := fun k i hk => sK_ne hk _ _ _
    have hM1 : MoT (msF Q L f (Q 2 r) 0) L := fun h i a b c d => by rw [q1k 1 _ (by omega)]; exact hM h i a b c d
    have e1 := msF_e W F hf hR hM hn (ax := 0) (Or.inl rfl)
    have e2 := msF_e W F hf hR1 hM1 hn (ax := 1) (Or.inr rfl)
    have kne : ∀ j : Int, 0 ≤ j → j < L 2 (Q 2 r) → isZ (Q 2 r) → mbrF L (Q 2 r) j ≠ Q 2 r := by
      intro j h1 h2 z e
      obtain ⟨a, c, -⟩ := mbrF_get W.mb (h := Q 2 r) (i := j) ⟨by omega, by omega⟩ ⟨h1, h2⟩
      rw [e] at c
      exact nself c
    rw [mdG, g2]
    generalize hX : msF (msF Q L f (Q 2 r) 0) L f (Q 2 r) 1 = X at *
    have xk : ∀ (k : Nat) (i : Int), k ≠ 4 → X k i = Q k i := fun k i hk => by
      rw [← hX]
      show sK (msF Q L f (Q 2 r) 0) 4 98 _ _ k i = _
      rw [sK_ne hk]; exact q1k k i hk
    have xV : ∀ (x ax : Int), (16 ≤ x ∧ x < 47) → x ≠ Q 2 r → (ax = 0 ∨ ax = 1) → VC X x ax = VC Q x ax := by
      intro x ax hx hne ha
      unfold VC
      rw [e2, up_e, if_neg (by omega), e1, up_e, if_neg (by omega)]
    have x40 : X 4 (2 * Q 2 r + 0) = (if isZ (Q 2 r) then (if L 5 (Q 2 r - 32) = 0 then wr (smG (fun j => VC Q (mbrF L (Q 2 r) j) 0) (L 2 (Q 2 r)).toNat + L 2 (Q 2 r) - 1) else mmG (fun j => VC Q (mbrF L (Q 2 r) j) 0) (L 2 (Q 2 r)).toNat) else gmx f L (Q 2 r) 0 (L 2 (Q 2 r)).toNat + 0) := by
      rw [e2, up_e, if_neg (by omega), e1, up_e, if_pos ⟨rfl, rfl⟩]
    have x41 : X 4 (2 * Q 2 r + 1) = (if isZ (Q 2 r) then (if L 5 (Q 2 r - 32) = 1 then wr (smG (fun j => VC (msF Q L f (Q 2 r) 0) (mbrF L (Q 2 r) j) 1) (L 2 (Q 2 r)).toNat + L 2 (Q 2 r) - 1) else mmG (fun j => VC (msF Q L f (Q 2 r) 0) (mbrF L (Q 2 r) j) 1) (L 2 (Q 2 r)).toNat) else gmx f L (Q 2 r) 1 (L 2 (Q 2 r)).toNat + 1) := by
      rw [e2, up_e, if_pos ⟨rfl, rfl⟩]
    have xW : WE f L (VC X) (Q 2 r) := by
      intro ax ha
      have ks : ∀ (Y : Mem), (∀ j : Int, 0 ≤ j → j < ((L 2 (Q 2 r)).toNat : Int) → VC Y (mbrF L (Q 2 r) j) ax = VC X (mbrF L (Q 2 r) j) ax) → smG (fun j => VC Y (mbrF L (Q 2 r) j) ax) (L 2 (Q 2 r)).toNat = smG (fun j => VC X (mbrF L (Q 2 r) j) ax) (L 2 (Q 2 r)).toNat ∧ mmG (fun j => VC Y (mbrF L (Q 2 r) j) ax) (L 2 (Q 2 r)).toNat = mmG (fun j => VC X (mbrF L (Q 2 r) j) ax) (L 2 (Q 2 r)).toNat := fun Y h => ⟨smG_ext _ h, mmG_ext _ h⟩
      have nn := W.mb.nng (Q 2 r) (by omega) (by omega)
      by_cases z : isZ (Q 2 r)
      · have kv : ∀ j : Int, 0 ≤ j → j < ((L 2 (Q 2 r)).toNat : Int) → VC Q (mbrF L (Q 2 r) j) ax = VC X (mbrF L (Q 2 r) j) ax := fun j h1 h2 => (xV _ ax (kidT W z ⟨h1, by omega⟩).rg (kne j h1 (by omega) z) ha).symm
        have kv1 : ∀ j : Int, 0 ≤ j → j < ((L 2 (Q 2 r)).toNat : Int) → VC (msF Q L f (Q 2 r) 0) (mbrF L (Q 2 r) j) ax = VC X (mbrF L (Q 2 r) j) ax := fun j h1 h2 => by
          rw [← kv j h1 h2]
          have := kne j h1 (by omega) z
          unfold VC
          rw [e1, up_e, if_neg (by omega)]
        obtain ⟨a1, a2⟩ := ks Q kv
        obtain ⟨b1, b2⟩ := ks _ kv1
        rw [if_pos z]
        rcases ha with rfl | rfl
        · show X 4 (2 * Q 2 r + 0) = _
          rw [x40, if_pos z, a1, a2]
        · show X 4 (2 * Q 2 r + 1) = _
          rw [x41, if_pos z, b1, b2]
      · rw [if_neg z]
        rcases ha with rfl | rfl
        · show X 4 (2 * Q 2 r + 0) = _
          rw [x40, if_neg z]
        · show X 4 (2 * Q 2 r + 1) = _
          rw [x41, if_neg z]
    have OX : Ord L X := by
      obtain ⟨o1, o2, o3, o4, o5, o6, o7, o8, o9, o10⟩ := O
      (first | with_reducible refine Que.mk ?_ ?_ ?_ ?_ ?_ ?_ ?_ ?_ | with_reducible refine QuI.mk ?_ ?_ ?_ ?_ ?_ ?_ | with_reducible refine Ord.mk ?_ ?_ ?_ ?_ ?_ ?_ ?_ ?_ ?_ ?_ | with_reducible refine LnI.mk ?_ ?_ ?_ ?_ ?_ ?_ ?_ ?_ ?_ ?_ ?_ ?_ ?_ ?_ ?_ ?_ ?_ | with_reducible refine Rl.mk ?_ ?_ ?_ ?_ ?_ ?_ ?_ ?_ ?_ ?_ ?_ ?_ ?_ | with_reducible refine Wf.mk ?_ ?_ ?_ ?_ ?_ ?_ ?_ ?_ ?_ ?_ ?_ | with_reducible refine Mb.mk ?_ ?_ ?_ ?_ ?_ | constructor) <;> simpa only [xk 0 _ (show (0 : Nat) ≠ 4 by omega), xk 2 _ (show (2 : Nat) ≠ 4 by omega)]
    have x9 : X 0 9 = Q 0 9 := xk 0 9 (by omega)
    obtain ⟨c1, c2⟩ := mdG_e W F hf r X (by rw [← hX]; exact R32_sK hR1 _ _ _ _) (fun h i a b c d => by rw [xk 1 _ (by omega)]; exact hM h i a b c d) OX (by rw [x9]; omega) (fun k h1 h2 => by
      rw [x9] at h2
      rw [xk 2 _ (by omega)]
      by_cases z : k = r
      · rw [z]; exact xW
      · have hk := O.rng k (by omega) h2
        have nk : Q 2 k ≠ Q 2 r := fun e => z (O.inj k r (by omega) h2 (by omega) (by omega) e)
        have wk := h k (by omega) h2
        intro ax ha
        have nn := W.mb.nng (Q 2 k) (by have := hk.rg; omega) (by have := hk.rg; omega)
        rw [xV _ ax hk.rg nk ha, wk ax ha]
        by_cases y : isZ (Q 2 k)
        · have kv : ∀ j : Int, 0 ≤ j → j < ((L 2 (Q 2 k)).toNat : Int) → VC Q (mbrF L (Q 2 k) j) ax = VC X (mbrF L (Q 2 k) j) ax := fun j j1 j2 => by
            obtain ⟨a, c, -⟩ := mbrF_get W.mb (h := Q 2 k) (i := j) ⟨by have := hk.rg; omega, by have := hk.rg; omega⟩ ⟨j1, by omega⟩
            refine (xV _ ax (kidT W y ⟨j1, by omega⟩).rg ?_ ha).symm
            intro e
            -- a child of E k is later than E k
            rw [e] at c
            by_cases r0 : r = 0
            · subst r0
              obtain ⟨-, q9⟩ := O.root (by omega)
              have m := (mbrF_get W.mb (h := 47) (i := 0) ⟨by omega, by omega⟩ ⟨by omega, by have := (O.root (by omega)).1; omega⟩).2.1
              rw [← q9] at m
              have q9' : Q 2 ((0 : Nat) : Int) = Q 2 0 := rfl
              rw [q9', m] at c
              have := hk.rg; omega
            · obtain ⟨-, l, l1, l2, l3⟩ := O.par r (by omega) (by omega)
              have := O.inj l k l1 (by omega) (by omega) h2 (by rw [l3, c])
              omega
          rw [if_pos y, if_pos y, smG_ext _ kv, mmG_ext _ kv]
        · rw [if_neg y, if_neg y])
    refine ⟨fun k h1 h2 => ?_, fun k i hk => by rw [c2 k i hk, xk k i hk]⟩
    have := c1 k h1 (by rw [x9]; exact h2)
    rw [xk 2 _ (by omega)] at this
    exact this
