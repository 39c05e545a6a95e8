/-! the reference's queue of the nodes -/
def QuI (u : Int → Int) (L Z : Mem) (q a : Int) (w : Int → Int) : Prop :=
  (0 ≤ a ∧ a ≤ q) ∧
  (∀ k : Int, 0 ≤ k → k < q → InT L (w k) ∧ Z 6 k = u (w k)) ∧
  (∀ k l : Int, 0 ≤ k → k < q → 0 ≤ l → l < q → w k = w l → k = l) ∧
  (0 < q ∧ L 2 47 = 1 ∧ w 0 = mbrF L 47 0) ∧
  (∀ k : Int, 0 ≤ k → k < a → isZ (w k) → ∀ t : Int, 0 ≤ t → t < 49 → L 0 t = w k → ∃ l : Int, 0 ≤ l ∧ l < q ∧ w l = t) ∧
  (∀ k : Int, 0 < k → k < q → isZ (L 0 (w k)) ∧ ∃ l : Int, 0 ≤ l ∧ l < k ∧ l < a ∧ w l = L 0 (w k))
theorem QuI.a0 {u : Int → Int} {L Z : Mem} {q a : Int} {w : Int → Int} (h9 : QuI u L Z q a w) : 0 ≤ a ∧ a ≤ q := h9.1
theorem QuI.rng {u : Int → Int} {L Z : Mem} {q a : Int} {w : Int → Int} (h9 : QuI u L Z q a w) : ∀ k : Int, 0 ≤ k → k < q → InT L (w k) ∧ Z 6 k = u (w k) := h9.2.1
theorem QuI.inj {u : Int → Int} {L Z : Mem} {q a : Int} {w : Int → Int} (h9 : QuI u L Z q a w) : ∀ k l : Int, 0 ≤ k → k < q → 0 ≤ l → l < q → w k = w l → k = l := h9.2.2.1
theorem QuI.root {u : Int → Int} {L Z : Mem} {q a : Int} {w : Int → Int} (h9 : QuI u L Z q a w) : 0 < q ∧ L 2 47 = 1 ∧ w 0 = mbrF L 47 0 := h9.2.2.2.1
theorem QuI.cl {u : Int → Int} {L Z : Mem} {q a : Int} {w : Int → Int} (h9 : QuI u L Z q a w) : ∀ k : Int, 0 ≤ k → k < a → isZ (w k) → ∀ t : Int, 0 ≤ t → t < 49 → L 0 t = w k → ∃ l : Int, 0 ≤ l ∧ l < q ∧ w l = t := h9.2.2.2.2.1
theorem QuI.par {u : Int → Int} {L Z : Mem} {q a : Int} {w : Int → Int} (h9 : QuI u L Z q a w) : ∀ k : Int, 0 < k → k < q → isZ (L 0 (w k)) ∧ ∃ l : Int, 0 ≤ l ∧ l < k ∧ l < a ∧ w l = L 0 (w k) := h9.2.2.2.2.2
theorem QuI.mk {u : Int → Int} {L Z : Mem} {q a : Int} {w : Int → Int} (h_a0 : 0 ≤ a ∧ a ≤ q) (h_rng : ∀ k : Int, 0 ≤ k → k < q → InT L (w k) ∧ Z 6 k = u (w k)) (h_inj : ∀ k l : Int, 0 ≤ k → k < q → 0 ≤ l → l < q → w k = w l → k = l) (h_root : 0 < q ∧ L 2 47 = 1 ∧ w 0 = mbrF L 47 0) (h_cl : ∀ k : Int, 0 ≤ k → k < a → isZ (w k) → ∀ t : Int, 0 ≤ t → t < 49 → L 0 t = w k → ∃ l : Int, 0 ≤ l ∧ l < q ∧ w l = t) (h_par : ∀ k : Int, 0 < k → k < q → isZ (L 0 (w k)) ∧ ∃ l : Int, 0 ≤ l ∧ l < k ∧ l < a ∧ w l = L 0 (w k)) : QuI u L Z q a w := ⟨h_a0, h_rng, h_inj, h_root, h_cl, h_par⟩
def Que (u : Int → Int) (L Z : Mem) (q : Int) (w : Int → Int) : Prop :=
  (0 ≤ q ∧ q ≤ 31) ∧
  (∀ k : Int, 0 ≤ k → k < q → InT L (w k)) ∧
  (∀ k : Int, 0 ≤ k → k < q → Z 6 k = u (w k)) ∧
  (∀ k l : Int, 0 ≤ k → k < q → 0 ≤ l → l < q → w k = w l → k = l) ∧
  (∀ x : Int, InT L x → ∃ k : Int, 0 ≤ k ∧ k < q ∧ w k = x) ∧
  (0 < q → L 2 47 = 1 ∧ w 0 = mbrF L 47 0) ∧
  (q = 0 → L 2 47 = 0) ∧
  (∀ k : Int, 0 < k → k < q → isZ (L 0 (w k)) ∧ ∃ l : Int, 0 ≤ l ∧ l < k ∧ w l = L 0 (w k))
theorem Que.n0 {u : Int → Int} {L Z : Mem} {q : Int} {w : Int → Int} (h9 : Que u L Z q w) : 0 ≤ q ∧ q ≤ 31 := h9.1
theorem Que.rng {u : Int → Int} {L Z : Mem} {q : Int} {w : Int → Int} (h9 : Que u L Z q w) : ∀ k : Int, 0 ≤ k → k < q → InT L (w k) := h9.2.1
theorem Que.row {u : Int → Int} {L Z : Mem} {q : Int} {w : Int → Int} (h9 : Que u L Z q w) : ∀ k : Int, 0 ≤ k → k < q → Z 6 k = u (w k) := h9.2.2.1
theorem Que.inj {u : Int → Int} {L Z : Mem} {q : Int} {w : Int → Int} (h9 : Que u L Z q w) : ∀ k l : Int, 0 ≤ k → k < q → 0 ≤ l → l < q → w k = w l → k = l := h9.2.2.2.1
theorem Que.all {u : Int → Int} {L Z : Mem} {q : Int} {w : Int → Int} (h9 : Que u L Z q w) : ∀ x : Int, InT L x → ∃ k : Int, 0 ≤ k ∧ k < q ∧ w k = x := h9.2.2.2.2.1
theorem Que.root {u : Int → Int} {L Z : Mem} {q : Int} {w : Int → Int} (h9 : Que u L Z q w) : 0 < q → L 2 47 = 1 ∧ w 0 = mbrF L 47 0 := h9.2.2.2.2.2.1
theorem Que.none {u : Int → Int} {L Z : Mem} {q : Int} {w : Int → Int} (h9 : Que u L Z q w) : q = 0 → L 2 47 = 0 := h9.2.2.2.2.2.2.1
theorem Que.par {u : Int → Int} {L Z : Mem} {q : Int} {w : Int → Int} (h9 : Que u L Z q w) : ∀ k : Int, 0 < k → k < q → isZ (L 0 (w k)) ∧ ∃ l : Int, 0 ≤ l ∧ l < k ∧ w l = L 0 (w k) := h9.2.2.2.2.2.2.2
theorem Que.mk {u : Int → Int} {L Z : Mem} {q : Int} {w : Int → Int} (h_n0 : 0 ≤ q ∧ q ≤ 31) (h_rng : ∀ k : Int, 0 ≤ k → k < q → InT L (w k)) (h_row : ∀ k : Int, 0 ≤ k → k < q → Z 6 k = u (w k)) (h_inj : ∀ k l : Int, 0 ≤ k → k < q → 0 ≤ l → l < q → w k = w l → k = l) (h_all : ∀ x : Int, InT L x → ∃ k : Int, 0 ≤ k ∧ k < q ∧ w k = x) (h_root : 0 < q → L 2 47 = 1 ∧ w 0 = mbrF L 47 0) (h_none : q = 0 → L 2 47 = 0) (h_par : ∀ k : Int, 0 < k → k < q → isZ (L 0 (w k)) ∧ ∃ l : Int, 0 ≤ l ∧ l < k ∧ w l = L 0 (w k)) : Que u L Z q w := ⟨h_n0, h_rng, h_row, h_inj, h_all, h_root, h_none, h_par⟩
theorem QuI.le {u : Int → Int} {L Z : Mem} {q a : Int} {w : Int → Int} (I : QuI u L Z q a w) : q ≤ 31 := by
  have q0 := I.root.1
  have := inj_le (fun i => w i - 16) q.toNat 31 (fun g h1 h2 => by have := (I.rng g h1 (by omega)).1.rg; show 0 ≤ w g - 16 ∧ w g - 16 < 31; omega) (fun g h h1 h2 h3 h4 e => by
    have e : w g - 16 = w h - 16 := e
    exact I.inj g h h1 (by omega) h3 (by omega) (by omega))
  omega
theorem qiG_e (T : Mem) (h : Int) : ∀ (d : Nat) (k : Int) (x : Int × Mem), (qiG T h d k x).1 = x.1 + d ∧ (∀ (r : Nat) (i : Int), r ≠ 6 → (qiG T h d k x).2 r i = x.2 r i) ∧ (∀ i : Int, i < x.1 ∨ x.1 + d ≤ i → (qiG T h d k x).2 6 i = x.2 6 i) ∧ (∀ i : Int, 0 ≤ i → i < d → (qiG T h d k x).2 6 (x.1 + i) = chT T h (k + i))
  | 0, k, x => ⟨by simp [qiG], fun _ _ _ => rfl, fun _ _ => rfl, fun i h1 h2 => by omega⟩
  | d + 1, k, x => by
    obtain ⟨p1, p2, p3, p4⟩ := qiG_e T h d (k + 1) (x.1 + 1, up x.2 6 x.1 (chT T h k))
    rw [qiG]
    refine ⟨by rw [p1]; show x.1 + 1 + (d : Int) = x.1 + ((d + 1 : Nat) : Int); omega, fun r i hr => by rw [p2 r i hr]; show up x.2 6 x.1 _ r i = _; rw [up_e, if_neg (by omega)], fun i hi => ?_, fun i i1 i2 => ?_⟩
    · rw [p3 i (by show i < x.1 + 1 ∨ x.1 + 1 + (d : Int) ≤ i; omega)]
      show up x.2 6 x.1 _ 6 i = _
      rw [up_e, if_neg (by omega)]
    · by_cases z : i = 0
      · rw [p3 (x.1 + i) (by show x.1 + i < x.1 + 1 ∨ _; omega)]
        show up x.2 6 x.1 _ 6 (x.1 + i) = _
        rw [up_e, if_pos ⟨rfl, by omega⟩, z]
        congr 1
        omega
      · have := p4 (i - 1) (by omega) (by omega)
        have this : (qiG T h d (k + 1) (x.1 + 1, up x.2 6 x.1 (chT T h k))).2 6 (x.1 + 1 + (i - 1)) = chT T h (k + 1 + (i - 1)) := this
        rw [show x.1 + i = x.1 + 1 + (i - 1) by omega, this]
        congr 1
        omega
section QU
variable {u : Int → Int} {L T : Mem} {kq : Int}
theorem Rl.spl (R : Rl u L T (-1) kq) {x : Int} (hx : Us L (-1) x) : spT T (u x) = 1 ↔ isZ x := by
  have k := R.knd x hx
  have b := hx.1
  have ax := R.wf.axs x
  have kk := R.kk
  unfold spT isZ
  unfold kindL at k
  grind
theorem Rl.qm (R : Rl u L T (-1) kq) {x : Int} (hx : Us L (-1) x) : qmF T (u x) = if isZ x then L 2 x else 0 := by
  have s := R.spl hx
  unfold qmF
  by_cases z : isZ x
  · rw [if_pos (s.mpr z), if_pos z, R.kids hx z.1]
  · rw [if_neg (fun h => z (s.mp h)), if_neg z]
theorem QuI.step {Z : Mem} {q a : Int} {w : Int → Int} (R : Rl u L T (-1) kq) (I : QuI u L Z q a w) (ha : a < q) :
    ∃ w' : Int → Int, QuI u L (qiG T (Z 6 a) (qmF T (Z 6 a)).toNat 0 (q, Z)).2 (qiG T (Z 6 a) (qmF T (Z 6 a)).toNat 0 (q, Z)).1 (a + 1) w' := by
  have W := R.wf
  obtain ⟨hT, hz⟩ := I.rng a I.a0.1 ha
  have rh := hT.rg
  have m := R.qm hT.1
  rw [hz, m]
  have a0 := I.a0
  have h0 : L 0 (w a) ≠ -1 := by have := hT.1.2; omega
  have nn := W.mb.nng (w a) (by omega) (by omega)
  generalize hh : w a = h at *
  have nself : L 0 h ≠ h := by
    intro e
    rcases hT.hol W with z | z
    · rw [e] at z; omega
    · obtain ⟨r, hr⟩ := W.rank
      have := hr h rh.1 rh.2 z.1 z.2
      rw [e] at this; omega
  have nokid : ∀ k : Int, 0 ≤ k → k < q → L 0 (w k) ≠ h := by
    intro k h1 h2 e
    by_cases k0 : k = 0
    · subst k0
      have := (mbrF_get W.mb (h := 47) (i := 0) ⟨by omega, by omega⟩ ⟨by omega, by have := I.root; omega⟩).2.1
      rw [← I.root.2.2, e] at this; omega
    · obtain ⟨-, l, l1, l2, l3, l4⟩ := I.par k (by omega) h2
      have := I.inj l a l1 (by omega) a0.1 ha (by rw [l4, e, hh])
      omega
  obtain ⟨p1, p2, p3, p4⟩ := qiG_e T (u h) (if isZ h then L 2 h else 0).toNat 0 (q, Z)
  generalize hc : (if isZ h then L 2 h else 0) = c at *
  have cz : 0 ≤ c := by rw [← hc]; split <;> omega
  have cs : 0 < c → isZ h := by intro z; rw [← hc] at z; split at z <;> first | assumption | omega
  have p1 : (qiG T (u h) c.toNat 0 (q, Z)).1 = q + c := by rw [p1]; show q + (c.toNat : Int) = q + c; omega
  have kid : ∀ j : Int, 0 ≤ j → j < c → (0 ≤ mbrF L h j ∧ mbrF L h j < 49) ∧ L 0 (mbrF L h j) = h ∧ L 1 (mbrF L h j) = j := by
    intro j h1 h2
    have z := cs (by omega)
    rw [if_pos z] at hc
    exact mbrF_get W.mb ⟨by omega, by omega⟩ ⟨h1, by omega⟩
  have old : ∀ k : Int, k < q → (if q ≤ k ∧ k < q + c then mbrF L h (k - q) else w k) = w k := fun k hk => if_neg (by omega)
  have new : ∀ k : Int, q ≤ k → k < q + c → (if q ≤ k ∧ k < q + c then mbrF L h (k - q) else w k) = mbrF L h (k - q) := fun k h1 h2 => if_pos ⟨h1, h2⟩
  refine ⟨fun k => if q ≤ k ∧ k < q + c then mbrF L h (k - q) else w k, ?_⟩
  rw [p1]
  first | with_reducible refine Que.mk ?_ ?_ ?_ ?_ ?_ ?_ ?_ ?_ | with_reducible refine QuI.mk ?_ ?_ ?_ ?_ ?_ ?_ | with_reducible refine Ord.mk ?_ ?_ ?_ ?_ ?_ ?_ ?_ ?_ ?_ ?_ | with_reducible refine LnI.mk ?_ ?_ ?_ ?_ ?_ ?_ ?_ ?_ ?_ ?_ ?_ ?_ ?_ ?_ ?_ ?_ ?_ | with_reducible refine Rl.mk ?_ ?_ ?_ ?_ ?_ ?_ ?_ ?_ ?_ ?_ ?_ ?_ ?_ | with_reducible refine Wf.mk ?_ ?_ ?_ ?_ ?_ ?_ ?_ ?_ ?_ ?_ ?_ | with_reducible refine Mb.mk ?_ ?_ ?_ ?_ ?_ | constructor
  · omega
  · intro k h1 h2
    show InT L (if q ≤ k ∧ k < q + c then mbrF L h (k - q) else w k) ∧ _ = u (if q ≤ k ∧ k < q + c then mbrF L h (k - q) else w k)
    by_cases z : k < q
    · rw [old k z, p3 k (Or.inl z)]; exact I.rng k h1 z
    · rw [new k (by omega) h2]
      obtain ⟨b1, b2, b3⟩ := kid (k - q) (by omega) (by omega)
      refine ⟨InT.kid W (cs (by omega)) b1 b2, ?_⟩
      have := p4 (k - q) (by omega) (by omega)
      have this : (qiG T (u h) c.toNat 0 (q, Z)).2 6 (q + (k - q)) = chT T (u h) (0 + (k - q)) := this
      rw [show q + (k - q) = k by omega, show 0 + (k - q) = k - q by omega] at this
      have z9 := cs (by omega)
      rw [if_pos z9] at hc
      rw [this, R.kid hT.1 z9.1 ⟨by omega, by omega⟩]
  · intro k l h1 h2 h3 h4 e
    have e : (if q ≤ k ∧ k < q + c then mbrF L h (k - q) else w k) = (if q ≤ l ∧ l < q + c then mbrF L h (l - q) else w l) := e
    by_cases z : k < q
    · by_cases y : l < q
      · rw [old k z, old l y] at e; exact I.inj k l h1 z h3 y e
      · rw [old k z, new l (by omega) h4] at e
        have := nokid k h1 z
        rw [e] at this
        exact absurd (kid _ (by omega) (by omega)).2.1 this
    · by_cases y : l < q
      · rw [new k (by omega) h2, old l y] at e
        have := nokid l h3 y
        rw [← e] at this
        exact absurd (kid _ (by omega) (by omega)).2.1 this
      · rw [new k (by omega) h2, new l (by omega) h4] at e
        have a1 := (kid (k - q) (by omega) (by omega)).2.2
        have b1 := (kid (l - q) (by omega) (by omega)).2.2
        rw [e] at a1
        omega
  · refine ⟨by omega, I.root.2.1, ?_⟩
    show (if q ≤ 0 ∧ 0 < q + c then mbrF L h (0 - q) else w 0) = _
    rw [old 0 (by omega)]; exact I.root.2.2
  · intro k h1 h2 hs t t1 t2 t3
    have hs : isZ (if q ≤ k ∧ k < q + c then mbrF L h (k - q) else w k) := hs
    have t3 : L 0 t = (if q ≤ k ∧ k < q + c then mbrF L h (k - q) else w k) := t3
    rw [old k (by omega)] at hs t3
    show ∃ l : Int, 0 ≤ l ∧ l < q + c ∧ (if q ≤ l ∧ l < q + c then mbrF L h (l - q) else w l) = t
    by_cases z : k = a
    · rw [z, hh] at hs t3
      rw [if_pos hs] at hc
      have rg := W.mb.rng t t1 t2 (by unfold isZ at hs; omega)
      rw [t3] at rg
      refine ⟨q + L 1 t, by omega, by omega, ?_⟩
      rw [new _ (by omega) (by omega), show q + L 1 t - q = L 1 t by omega]
      exact mbrF_hit W.mb ⟨t1, t2⟩ t3 (by omega)
    · obtain ⟨l, l1, l2, l3⟩ := I.cl k h1 (by omega) hs t t1 t2 t3
      exact ⟨l, l1, by omega, by rw [old l l2]; exact l3⟩
  · intro k h1 h2
    show isZ (L 0 (if q ≤ k ∧ k < q + c then mbrF L h (k - q) else w k)) ∧ ∃ l : Int, 0 ≤ l ∧ l < k ∧ l < a + 1 ∧ (if q ≤ l ∧ l < q + c then mbrF L h (l - q) else w l) = L 0 (if q ≤ k ∧ k < q + c then mbrF L h (k - q) else w k)
    by_cases z : k < q
    · rw [old k z]
      obtain ⟨a1, l, l1, l2, l3, l4⟩ := I.par k h1 z
      exact ⟨a1, l, l1, l2, by omega, by rw [old l (by omega)]; exact l4⟩
    · rw [new k (by omega) h2]
      obtain ⟨b1, b2, b3⟩ := kid (k - q) (by omega) (by omega)
      rw [b2]
      exact ⟨cs (by omega), a, a0.1, by omega, by omega, by rw [old a ha, hh]⟩
theorem QuI.go (R : Rl u L T (-1) kq) : ∀ (d : Nat) (a : Int) (x : Int × Mem) (w : Int → Int), QuI u L x.2 x.1 a w → 32 ≤ d + a → (∃ w', QuI u L (quG T d a x).2 (quG T d a x).1 (quG T d a x).1 w') ∧ ∀ (k : Nat) (i : Int), k ≠ 6 → (quG T d a x).2 k i = x.2 k i
  | 0, a, x, w, I, h => by
    have := I.le
    have := I.a0
    omega
  | d + 1, a, x, w, I, h => by
    unfold quG
    have a0 := I.a0
    by_cases z : a < x.1
    · rw [if_pos z]
      obtain ⟨w', I'⟩ := I.step R z
      obtain ⟨b1, b2⟩ := QuI.go R d (a + 1) _ w' I' (by omega)
      refine ⟨b1, fun k i hk => ?_⟩
      rw [b2 k i hk]
      exact (qiG_e T (x.2 6 a) (qmF T (x.2 6 a)).toNat 0 x).2.1 k i hk
    · rw [if_neg z]
      have : a = x.1 := by omega
      subst this
      exact ⟨⟨w, I⟩, fun _ _ _ => rfl⟩
theorem QuI.allG {Z : Mem} {q : Int} {w : Int → Int} (W : Wf L (-1)) (I : QuI u L Z q q w) {r : Int → Nat} (hb : ∀ x : Int, r x ≤ 16) (hr : ∀ t : Int, 16 ≤ t → t < 47 → 32 ≤ L 0 t → L 0 t < 47 → r t < r (L 0 t)) : ∀ (n : Nat) (x : Int), 16 - r x ≤ n → InT L x → ∃ k : Int, 0 ≤ k ∧ k < q ∧ w k = x
  | n, x, hn, hx => by
    have b := hx.rg
    rcases hx.hol W with e | s
    · obtain ⟨r1, r2⟩ := hx.root W e
      exact ⟨0, by omega, I.root.1, by rw [I.root.2.2, r2]⟩
    · have a3 := hr x b.1 b.2 s.1 s.2
      have a4 := hb (L 0 x)
      cases n with
      | zero => omega
      | succ n =>
        obtain ⟨k, k1, k2, k3⟩ := QuI.allG W I hb hr n (L 0 x) (by omega) (hx.par W s)
        exact I.cl k k1 k2 (by rw [k3]; exact s) x (by omega) (by omega) k3.symm
/-- the queue, at its end -/
theorem Rl.que (R : Rl u L T (-1) kq) (Z : Mem) : (∃ w : Int → Int, Que u L (quT T Z).2 (quT T Z).1 w) ∧ ∀ (k : Nat) (i : Int), k ≠ 6 → (quT T Z).2 k i = Z k i := by
  have W := R.wf
  have w0 := W.mb.nng 47 (by omega) (by omega)
  have w1 := W.win
  have rt := R.root
  unfold quT
  by_cases z : L 2 47 = 1
  · rw [if_pos z] at rt
    obtain ⟨m1, m2, m3⟩ := mbrF_get W.mb (h := 47) (i := 0) ⟨by omega, by omega⟩ ⟨by omega, by omega⟩
    have rT : InT L (mbrF L 47 0) := ⟨W.usd m1 (by omega), by omega⟩
    have rr := R.rng _ rT.1
    rw [if_neg (by omega), rt]
    have I : QuI u L (up Z 6 0 (u (mbrF L 47 0))) 1 0 (fun _ => mbrF L 47 0) := by
      first | with_reducible refine Que.mk ?_ ?_ ?_ ?_ ?_ ?_ ?_ ?_ | with_reducible refine QuI.mk ?_ ?_ ?_ ?_ ?_ ?_ | with_reducible refine Ord.mk ?_ ?_ ?_ ?_ ?_ ?_ ?_ ?_ ?_ ?_ | with_reducible refine LnI.mk ?_ ?_ ?_ ?_ ?_ ?_ ?_ ?_ ?_ ?_ ?_ ?_ ?_ ?_ ?_ ?_ ?_ | with_reducible refine Rl.mk ?_ ?_ ?_ ?_ ?_ ?_ ?_ ?_ ?_ ?_ ?_ ?_ ?_ | with_reducible refine Wf.mk ?_ ?_ ?_ ?_ ?_ ?_ ?_ ?_ ?_ ?_ ?_ | with_reducible refine Mb.mk ?_ ?_ ?_ ?_ ?_ | constructor
      · omega
      · intro k h1 h2
        have : k = 0 := by omega
        subst this
        exact ⟨rT, by rw [up_e, if_pos ⟨rfl, rfl⟩]⟩
      · intro k l h1 h2 h3 h4 _; omega
      · exact ⟨by omega, z, rfl⟩
      · intro k h1 h2; omega
      · intro k h1 h2; omega
    obtain ⟨⟨w, J⟩, b⟩ := QuI.go R 33 0 (1, up Z 6 0 (u (mbrF L 47 0))) _ I (by omega)
    obtain ⟨r, hb, hr⟩ := W.rankB
    refine ⟨⟨w, ?_⟩, fun k i hk => by rw [b k i hk]; show up Z 6 0 _ k i = _; rw [up_e, if_neg (by omega)]⟩
    have le := J.le
    first | with_reducible refine Que.mk ?_ ?_ ?_ ?_ ?_ ?_ ?_ ?_ | with_reducible refine QuI.mk ?_ ?_ ?_ ?_ ?_ ?_ | with_reducible refine Ord.mk ?_ ?_ ?_ ?_ ?_ ?_ ?_ ?_ ?_ ?_ | with_reducible refine LnI.mk ?_ ?_ ?_ ?_ ?_ ?_ ?_ ?_ ?_ ?_ ?_ ?_ ?_ ?_ ?_ ?_ ?_ | with_reducible refine Rl.mk ?_ ?_ ?_ ?_ ?_ ?_ ?_ ?_ ?_ ?_ ?_ ?_ ?_ | with_reducible refine Wf.mk ?_ ?_ ?_ ?_ ?_ ?_ ?_ ?_ ?_ ?_ ?_ | with_reducible refine Mb.mk ?_ ?_ ?_ ?_ ?_ | constructor
    · exact ⟨by have := J.root.1; omega, le⟩
    · exact fun k h1 h2 => (J.rng k h1 h2).1
    · exact fun k h1 h2 => (J.rng k h1 h2).2
    · exact J.inj
    · exact fun x hx => J.allG W hb hr _ x (Nat.le_refl _) hx
    · exact fun _ => J.root.2
    · intro h; have := J.root.1; omega
    · intro k h1 h2
      obtain ⟨a, l, l1, l2, -, l4⟩ := J.par k h1 h2
      exact ⟨a, l, l1, l2, l4⟩
  · rw [if_neg z] at rt
    rw [if_pos rt]
    refine ⟨⟨fun _ => 0, ?_⟩, fun _ _ _ => rfl⟩
    first | with_reducible refine Que.mk ?_ ?_ ?_ ?_ ?_ ?_ ?_ ?_ | with_reducible refine QuI.mk ?_ ?_ ?_ ?_ ?_ ?_ | with_reducible refine Ord.mk ?_ ?_ ?_ ?_ ?_ ?_ ?_ ?_ ?_ ?_ | with_reducible refine LnI.mk ?_ ?_ ?_ ?_ ?_ ?_ ?_ ?_ ?_ ?_ ?_ ?_ ?_ ?_ ?_ ?_ ?_ | with_reducible refine Rl.mk ?_ ?_ ?_ ?_ ?_ ?_ ?_ ?_ ?_ ?_ ?_ ?_ ?_ | with_reducible refine Wf.mk ?_ ?_ ?_ ?_ ?_ ?_ ?_ ?_ ?_ ?_ ?_ | with_reducible refine Mb.mk ?_ ?_ ?_ ?_ ?_ | constructor
    · show (0 : Int) ≤ 0 ∧ (0 : Int) ≤ 31; omega
    · intro k h1 h2; have h2 : k < 0 := h2; omega
    · intro k h1 h2; have h2 : k < 0 := h2; omega
    · intro k l h1 h2; have h2 : k < 0 := h2; omega
    · intro x hx
      obtain ⟨r, hb, hr⟩ := W.rankB
      exact absurd (W.rootE hx.1 hx.2) z
    · intro h; have h : (0 : Int) < 0 := h; omega
    · intro _; omega
    · intro k h1 h2; have h2 : k < 0 := h2; omega
end QU
