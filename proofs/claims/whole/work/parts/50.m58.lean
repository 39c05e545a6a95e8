/-! THE QUESTIONS: group -/
def fgL (L : Mem) : Nat → Int → Int
  | 0, x => x
  | d + 1, x => if 32 ≤ x ∧ x < 47 then fgL L d (mbrF L x 0) else x
def gtL (L : Mem) : Nat → Int → Int
  | 0, g => g
  | k + 1, g => if NXT L g = -1 then -1 else gtL L k (fgL L 40 (NXT L g))
section GR
variable {u : Int → Int} {L T : Mem}
theorem kid0 (W : Wf L (-1)) (F : Fu L) {x : Int} (hx : InT L x) (z : isZ x) : InT L (mbrF L x 0) ∧ L 0 (mbrF L x 0) = x ∧ 0 < L 2 x := by
  have b := hx.rg
  have x0 : L 0 x ≠ -1 := by have := hx.1.2; omega
  have f2 := ((F x b.1 b.2).2 x0).2 z.1
  obtain ⟨m1, m2, m3⟩ := mbrF_get W.mb (h := x) (i := 0) (by omega) ⟨by omega, by omega⟩
  exact ⟨InT.kid W z m1 m2, m2, by omega⟩
theorem fg_e (R : Rl u L T (-1) 1) (F : Fu L) {rk : Int → Nat} (K : RK L rk) : ∀ (d : Nat) (x : Int), rk x < d → InT L x → fgT T d (u x) = u (fgL L d x) ∧ fgE T d (u x) ∧ InT L (fgL L d x) ∧ ¬ isZ (fgL L d x)
  | 0, x, h, _ => by omega
  | d + 1, x, h, hx => by
    have W := R.wf
    have b := hx.rg
    have ug := R.rng x hx.1
    have kn := R.knd x hx.1
    unfold kindL at kn
    by_cases z : isZ x
    · have z1 := z.1
      have z2 := z.2
      have ax := W.axs x z1 z2
      rw [if_neg (show ¬ x < 32 by omega)] at kn
      have sp : spT T (u x) = 1 := by unfold spT; rw [if_pos (by omega)]
      obtain ⟨k1, k2, k3⟩ := kid0 W F hx z
      have kb := k1.rg
      have lt := K.2 (mbrF L x 0) kb.1 kb.2 (by omega) (by omega)
      rw [k2] at lt
      have ih := fg_e R F K d (mbrF L x 0) (by omega) k1
      have kd := R.kid hx.1 z1 (k := 0) ⟨by omega, k3⟩
      unfold fgT fgL fgE
      rw [if_pos (show u x ≠ -1 ∧ spT T (u x) = 1 from ⟨by omega, sp⟩), if_pos (show 32 ≤ x ∧ x < 47 from z), kd]
      exact ⟨ih.1, fun _ => ih.2.1, ih.2.2⟩
    · have x32 : x < 32 := by
        rcases Int.lt_or_le x 32 with a | a
        · exact a
        · exact absurd ⟨a, b.2⟩ z
      rw [if_pos x32, if_neg (by omega), if_neg hx.2] at kn
      have sp : ¬ spT T (u x) = 1 := by unfold spT; rw [if_neg (by omega)]; omega
      unfold fgT fgL fgE
      rw [if_neg (fun w => sp w.2), if_neg (show ¬ (32 ≤ x ∧ x < 47) from z)]
      exact ⟨rfl, fun w => absurd w.2 sp, hx, z⟩
theorem fgL_f (R : Rl u L T (-1) 1) (F : Fu L) {rk : Int → Nat} (K : RK L rk) : ∀ (d e : Nat) (x : Int), rk x < d → rk x < e → InT L x → fgL L d x = fgL L e x
  | 0, _, x, h, _, _ => by omega
  | _ + 1, 0, x, _, h, _ => by omega
  | d + 1, e + 1, x, h1, h2, hx => by
    unfold fgL
    by_cases z : isZ x
    · obtain ⟨k1, k2, k3⟩ := kid0 R.wf F hx z
      have kb := k1.rg
      have lt := K.2 (mbrF L x 0) kb.1 kb.2 (by have := z.1; omega) (by have := z.2; omega)
      rw [k2] at lt
      rw [if_pos (show 32 ≤ x ∧ x < 47 from z), if_pos (show 32 ≤ x ∧ x < 47 from z)]
      exact fgL_f R F K d e _ (by omega) (by omega) k1
    · rw [if_neg (show ¬ (32 ≤ x ∧ x < 47) from z), if_neg (show ¬ (32 ≤ x ∧ x < 47) from z)]
theorem na_e (R : Rl u L T (-1) 1) {rk : Int → Nat} (K : RK L rk) : ∀ (d : Nat) (x : Int), 17 - rk x ≤ d → InT L x → naE T d (u x) ∧
    ((T 1 (naT T d (u x)) = -1 ∧ NXT L x = -1) ∨ (T 1 (naT T d (u x)) ≠ -1 ∧ InT L (NXT L x) ∧ chT T (T 1 (naT T d (u x))) (T 2 (naT T d (u x)) + 1) = u (NXT L x)))
  | 0, x, h, _ => by have := K.1 x; omega
  | d + 1, x, h, hx => by
    have W := R.wf
    have b := hx.rg
    have pa := R.par x hx.1
    have ps := R.pos x hx.1 (by omega)
    have e := NXT_e W b
    unfold naE naT
    by_cases z : isZ (L 0 x)
    · have hs := hx.par W z
      have us := R.rng _ hs.1
      have lt := K.2 x b.1 b.2 z.1 z.2
      have rg := W.mb.rng x (by omega) (by omega) (by have := z.1; omega)
      rw [if_pos (show 32 ≤ L 0 x ∧ L 0 x < 47 from z)] at pa
      rw [if_pos z] at e
      by_cases y : L 1 x + 1 < L 2 (L 0 x)
      · obtain ⟨m1, m2, m3⟩ := mbrF_get W.mb (h := L 0 x) (i := L 1 x + 1) (by have := hs.rg; omega) ⟨by omega, y⟩
        have hn := InT.kid W z m1 m2
        have un := R.rng _ hn.1
        have kd := R.kid hs.1 z.1 (k := L 1 x + 1) ⟨by omega, y⟩
        rw [if_pos y] at e
        have nc : ¬ (T 1 (u x) ≠ -1 ∧ chT T (T 1 (u x)) (T 2 (u x) + 1) = -1) := fun w => by
          have := w.2
          rw [pa, ps, kd] at this
          omega
        rw [if_neg nc]
        refine ⟨fun w => absurd w nc, Or.inr ⟨by rw [pa]; omega, by rw [e]; exact hn, by rw [pa, ps, kd, e]⟩⟩
      · rw [if_neg y] at e
        have kd := R.kidNo hs.1 z.1 (k := L 1 x + 1) (Or.inr (by omega))
        have yc : T 1 (u x) ≠ -1 ∧ chT T (T 1 (u x)) (T 2 (u x) + 1) = -1 := ⟨by rw [pa]; omega, by rw [pa, ps, kd]⟩
        rw [if_pos yc, e, pa]
        have ih := na_e R K d (L 0 x) (by omega) hs
        exact ⟨fun _ => ih.1, ih.2⟩
    · rw [if_neg (show ¬ (32 ≤ L 0 x ∧ L 0 x < 47) from z)] at pa
      rw [if_neg z] at e
      have nc : ¬ (T 1 (u x) ≠ -1 ∧ chT T (T 1 (u x)) (T 2 (u x) + 1) = -1) := fun w => w.1 pa
      rw [if_neg nc]
      exact ⟨fun w => absurd w nc, Or.inl ⟨pa, e⟩⟩
theorem nx_e (R : Rl u L T (-1) 1) (F : Fu L) {rk : Int → Nat} (K : RK L rk) {x : Int} (hx : InT L x) : (NXT L x = -1 ∧ nxT T (u x) = -1) ∨ (NXT L x ≠ -1 ∧ InT L (NXT L x) ∧ nxT T (u x) = u (fgL L 40 (NXT L x))) := by
  have n := (na_e R K 40 x (by omega) hx).2
  unfold nxT
  rcases n with ⟨n1, n2⟩ | ⟨n1, n2, n3⟩
  · exact Or.inl ⟨n2, by rw [if_pos n1]⟩
  · have k16 := K.1 (NXT L x)
    exact Or.inr ⟨by have := n2.rg; omega, n2, by rw [if_neg n1, n3]; exact (fg_e R F K 40 _ (by omega) n2).1⟩
theorem gtT_neg (T : Mem) : ∀ k : Nat, gtT T k (-1) = -1
  | 0 => rfl
  | k + 1 => by unfold gtT; rw [if_pos rfl]
theorem gt_e (R : Rl u L T (-1) 1) (F : Fu L) {rk : Int → Nat} (K : RK L rk) : ∀ (k : Nat) (g : Int), InT L g → ¬ isZ g → (gtL L k g = -1 ∧ gtT T k (u g) = -1) ∨ (InT L (gtL L k g) ∧ ¬ isZ (gtL L k g) ∧ gtT T k (u g) = u (gtL L k g))
  | 0, g, hg, z => Or.inr ⟨hg, z, rfl⟩
  | k + 1, g, hg, z => by
    have ug := R.rng g hg.1
    unfold gtL gtT
    rw [if_neg (show ¬ u g = -1 by omega)]
    rcases nx_e R F K hg with ⟨n1, n2⟩ | ⟨n1, n2, n3⟩
    · rw [if_pos n1, n2, gtT_neg]; exact Or.inl ⟨rfl, rfl⟩
    · have k16 := K.1 (NXT L g)
      have f := fg_e R F K 40 _ (by omega) n2
      rw [if_neg n1, n3]
      exact gt_e R F K k _ f.2.2.1 f.2.2.2
theorem tn_e (R : Rl u L T (-1) 1) (F : Fu L) {rk : Int → Nat} (K : RK L rk) {Q : Mem} (O : Ord L Q) (i : Int) : ∀ (d j : Nat) (a : Int), (j : Int) + d = Q 0 9 → 0 < d → a ≤ i → tnG Q i d j a = gtL L (i - a).toNat (fgL L 40 (Q 2 j))
  | 0, _, _, _, h, _ => by omega
  | d + 1, j, a, h1, _, h3 => by
    have W := R.wf
    have n0 := O.n0
    have hx := O.rng j (by omega) (by omega)
    have k16 := K.1 (Q 2 j)
    unfold tnG
    rw [gKr (by omega) (by omega)]
    by_cases z : isZ (Q 2 j)
    · obtain ⟨m1, m2, m3⟩ := kid0 W F hx z
      have mb := m1.rg
      have sc : suc L (Q 2 j) = mbrF L (Q 2 j) 0 := by unfold suc; rw [if_pos z]
      have hd : 0 < d := by
        rcases Nat.eq_zero_or_pos d with e | e
        · exfalso
          have l := O.las (by omega)
          rw [show Q 0 9 - 1 = (j : Int) by omega, sc] at l
          omega
        · exact e
      have ch := O.ch j (by omega) (by omega)
      have lt := K.2 (mbrF L (Q 2 j) 0) mb.1 mb.2 (by have := z.1; omega) (by have := z.2; omega)
      rw [m2] at lt
      have ih := tn_e R F K O i d (j + 1) a (by omega) hd h3
      rw [if_pos (show 32 ≤ Q 2 j ∧ Q 2 j < 47 from z), ih, show ((j + 1 : Nat) : Int) = (j : Int) + 1 by omega, ch, sc]
      congr 1
      rw [show fgL L 40 (Q 2 j) = fgL L 39 (mbrF L (Q 2 j) 0) by rw [fgL, if_pos (show 32 ≤ Q 2 j ∧ Q 2 j < 47 from z)]]
      exact fgL_f R F K _ _ _ (by omega) (by omega) m1
    · rw [if_neg (show ¬ (32 ≤ Q 2 j ∧ Q 2 j < 47) from z)]
      have fx : fgL L 40 (Q 2 j) = Q 2 j := by rw [fgL, if_neg (show ¬ (32 ≤ Q 2 j ∧ Q 2 j < 47) from z)]
      have sc : suc L (Q 2 j) = NXT L (Q 2 j) := by unfold suc; rw [if_neg z]
      rw [fx]
      by_cases y : a = i
      · rw [if_pos y, show (i - a).toNat = 0 by omega]; rfl
      · rw [if_neg y, show (i - a).toNat = (i - (a + 1)).toNat + 1 by omega, gtL]
        rcases Nat.eq_zero_or_pos d with e | e
        · subst e
          have l := O.las (by omega)
          rw [show Q 0 9 - 1 = (j : Int) by omega, sc] at l
          rw [if_pos l]
          rfl
        · have ch := O.ch j (by omega) (by omega)
          have hy := O.rng (j + 1) (by omega) (by omega)
          have yb := hy.rg
          rw [ch, sc] at yb
          have ih := tn_e R F K O i d (j + 1) (a + 1) (by omega) e (by omega)
          rw [if_neg (by omega), ih, show ((j + 1 : Nat) : Int) = (j : Int) + 1 by omega, ch, sc]
theorem okG_e (R : Rl u L T (-1) 1) (F : Fu L) {rk : Int → Nat} (K : RK L rk) : okG T := by
  intro o ho ko
  obtain ⟨g, g1, rfl⟩ := R.sur o ho.1 ho.2 (by omega)
  have kg := R.knd g g1
  have gb := g1.1
  have hx : InT L g := ⟨g1, fun z => by
    unfold kindL at kg
    have := R.wf.spl g
    by_cases y : g < 32
    · rw [if_pos y, if_neg (by omega), if_pos z] at kg; omega
    · omega⟩
  have k16 := K.1 g
  exact ⟨(fg_e R F K 40 g (by omega) hx).2.1, (na_e R K 40 g (by omega) hx).1⟩
end GR
section GQ
variable {N : Int} {mu : Mem} {c h t p b q r : Nat}
theorem O_group (A : Inv N mu c h t p b r) {i : Int} (hf : fiF i = 0) : gL (lay mu (c + 2)) 4 (tnF (pl mu p) i - 16) = gvT (trT mu r) i ∧ okG (trT mu r) := by
  obtain ⟨u, rk, wn, K⟩ := A.look
  have hi : 0 ≤ i := by unfold fiF at hf; split at hf <;> omega
  have R := K.rl
  have W := R.wf
  have D := K.pln.p0.od
  have n0 := D.n0
  have rt := R.root
  refine ⟨?_, okG_e R K.fu K.rkk⟩
  unfold gvT tnF
  have neg : gL (lay mu (c + 2)) 4 (-1 - 16) = -1 := by unfold gL gK; rw [wr_id (by omega)]; exact if_neg (by omega)
  by_cases z : 0 < pl mu p 0 9
  · have x1 := D.root z
    have hx := D.rng 0 (by omega) z
    have k16 := K.rkk.1 (pl mu p 2 0)
    rw [if_pos x1.1, ← x1.2] at rt
    have f := fg_e R K.fu K.rkk 40 _ (by omega) hx
    have tn := tn_e R K.fu K.rkk D i (pl mu p 0 9).toNat 0 0 (by omega) (by omega) hi
    rw [rt, f.1, tn, Int.sub_zero]
    show gL (lay mu (c + 2)) 4 (gtL (lay mu (c + 2)) i.toNat (fgL (lay mu (c + 2)) 40 (pl mu p 2 0)) - 16) = _
    rcases gt_e R K.fu K.rkk i.toNat _ f.2.2.1 f.2.2.2 with ⟨g1, g2⟩ | ⟨g1, g2, g3⟩
    · rw [g1, g2, if_pos rfl, neg]
    · have ug := R.rng _ g1.1
      have gb := g1.rg
      have g32 : gtL (lay mu (c + 2)) i.toNat (fgL (lay mu (c + 2)) 40 (pl mu p 2 0)) < 32 := by
        rcases Int.lt_or_le (gtL (lay mu (c + 2)) i.toNat (fgL (lay mu (c + 2)) 40 (pl mu p 2 0))) 32 with a | a
        · exact a
        · exact absurd ⟨a, gb.2⟩ g2
      rw [g3, if_neg (by omega), R.act _ g1.1 g32, gL4 (by omega)]
  · have x1 := D.none (by omega)
    rw [if_neg (by omega)] at rt
    rw [rt, show (pl mu p 0 9).toNat = 0 by omega]
    have e1 : fgT (trT mu r) 40 (-1) = -1 := by unfold fgT; rw [if_neg (fun w => w.1 rfl)]
    rw [e1, gtT_neg, if_pos rfl]
    exact neg
end GQ
