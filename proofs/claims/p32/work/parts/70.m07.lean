/-! what is free, and a new group -/
theorem smG_app (f : Int → Int) (m : Nat) : ∀ n : Nat, smG f (m + n) = smG f m + smG (fun i => f (i + m)) n
  | 0 => by show smG f m = _ + 0; omega
  | n + 1 => by
    show smG f (m + n) + f ((m + n : Nat) : Int) = smG f m + (smG (fun i => f (i + m)) n + f (n + m))
    rw [smG_app f m n, show ((m + n : Nat) : Int) = (n : Int) + m from by omega]
    omega
theorem smG_le (f : Int → Int) (c : Int) : ∀ m : Nat, (∀ o : Int, 0 ≤ o → o < m → f o ≤ c) → smG f m ≤ c * m
  | 0, _ => by show (0 : Int) ≤ c * 0; omega
  | m + 1, h => by
    have h1 := smG_le f c m (fun o h1 h2 => h o h1 (by omega))
    have h2 := h m (by omega) (by omega)
    show smG f m + f m ≤ c * ((m + 1 : Nat) : Int)
    rw [show ((m + 1 : Nat) : Int) = (m : Int) + 1 from by omega, Int.mul_add]
    omega
theorem smG_ge (f : Int → Int) (c : Int) : ∀ m : Nat, (∀ o : Int, 0 ≤ o → o < m → c ≤ f o) → c * m ≤ smG f m
  | 0, _ => by show c * 0 ≤ (0 : Int); omega
  | m + 1, h => by
    have h1 := smG_ge f c m (fun o h1 h2 => h o h1 (by omega))
    have h2 := h m (by omega) (by omega)
    show c * ((m + 1 : Nat) : Int) ≤ smG f m + f m
    rw [show ((m + 1 : Nat) : Int) = (m : Int) + 1 from by omega, Int.mul_add]
    omega
/-- one below the most: one of them is below -/
theorem smG_lt (f : Int → Int) (p : Int) (m : Nat) (h : ∀ o : Int, 0 ≤ o → o < m → f o ≤ 1) (hp : 0 ≤ p ∧ p < m) (h0 : f p ≤ 0) : smG f m ≤ (m : Int) - 1 := by
  have e : smG f m ≤ smG (fun o => 1 + (if o = p then -1 else 0)) m := smG_mono m (fun o h1 h2 => by
    have := h o h1 h2
    show f o ≤ 1 + (if o = p then -1 else 0)
    by_cases z : o = p
    · subst z; rw [if_pos rfl]; omega
    · rw [if_neg z]; omega)
  rw [smG_add, smG_one (fun _ => -1) p m hp.1 hp.2] at e
  have := smG_le (fun _ => 1) 1 m (fun _ _ _ => Int.le_refl _)
  omega
def opN (L : Mem) : Int := smG (fun t => if L 0 t = -1 then 0 else 1) 16
def gpN (L : Mem) : Int := smG (fun i => if L 0 (i + 16) = -1 then 0 else 1) 16
def spN (L : Mem) : Int := smG (fun i => if L 0 (i + 32) = -1 then 0 else 1) 15
theorem Mb.cnt {L : Mem} (W : Mb L) {h a : Int} {m : Nat} (hh : 16 ≤ h ∧ h < 49) (ha : 0 ≤ a ∧ a + m ≤ 49) (hm : ∀ t : Int, 0 ≤ t → t < 49 → L 0 t = h → a ≤ t ∧ t < a + m) : smG (fun i => if L 0 (i + a) = h then 1 else 0) m = L 2 h := by
  refine smG_card _ _ (fun i => L 1 (i + a)) _ (W.nng h hh.1 hh.2) (fun o h1 h2 => ?_) (fun o h1 h2 h3 => ?_) (fun o v h1 h2 h3 h4 h5 h6 h7 => ?_) (fun i h1 h2 => ?_)
  · show (if L 0 (o + a) = h then (1 : Int) else 0) = 0 ∨ (if L 0 (o + a) = h then (1 : Int) else 0) = 1
    split <;> simp
  · have e : L 0 (o + a) = h := by grind
    have := W.rng (o + a) (by omega) (by omega) (by omega)
    rw [e] at this
    exact this
  · have e : L 0 (o + a) = h := by grind
    have e2 : L 0 (v + a) = h := by grind
    have := W.inj (o + a) (v + a) (by omega) (by omega) (by omega) (by omega) (by omega) (by omega) h7
    omega
  · obtain ⟨t, t1, t2, t3, t4⟩ := W.sur h i hh.1 hh.2 h1 h2
    have := hm t t1 t2 t3
    refine ⟨t - a, by omega, by omega, ?_, ?_⟩
    · show (if L 0 (t - a + a) = h then (1 : Int) else 0) = 1
      rw [show t - a + a = t from by omega, if_pos t3]
    · show L 1 (t - a + a) = i
      rw [show t - a + a = t from by omega, t4]
theorem Wf.cntG {L : Mem} {q : Int} (W : Wf L q) : smG (fun i => L 2 (i + 16)) 16 = opN L := by
  have e : smG (fun i => L 2 (i + 16)) 16 = smG (fun i => smG (fun t => if L 0 (t + 0) = i + 16 then 1 else 0) 16) 16 := smG_ext 16 (fun i h1 h2 => (W.mb.cnt (a := 0) (m := 16) ⟨by omega, by omega⟩ ⟨by omega, by omega⟩ (fun t t1 t2 t3 => by have := W.memG ⟨t1, t2⟩ (by omega); omega)).symm)
  rw [e, smG_swap]
  refine smG_ext 16 fun t t1 t2 => ?_
  have h := W.pan t t1 (by omega)
  show smG (fun g => if L 0 (t + 0) = g + 16 then 1 else 0) 16 = if L 0 t = -1 then 0 else 1
  rw [show t + 0 = t from by omega]
  by_cases z : L 0 t = -1
  · rw [if_pos z]
    exact smG_zero 16 (fun o _ _ => if_neg (by omega))
  · rw [if_neg z]
    have e2 : ∀ o : Int, 0 ≤ o → o < (16 : Nat) → (if L 0 t = o + 16 then (1 : Int) else 0) = if o = L 0 t - 16 then (fun _ => (1 : Int)) o else 0 := by
      intro o _ _
      by_cases y : L 0 t = o + 16
      · rw [if_pos y, if_pos (by omega)]
      · rw [if_neg y, if_neg (by omega)]
    rw [smG_ext 16 e2, smG_one (fun _ => (1 : Int)) (L 0 t - 16) 16 (by omega) (by omega)]
theorem Wf.cntS {L : Mem} {q : Int} (W : Wf L q) : smG (fun i => L 2 (i + 32)) 15 = smG (fun i => if 32 ≤ L 0 (i + 16) ∧ L 0 (i + 16) < 47 then 1 else 0) 31 := by
  have e : smG (fun i => L 2 (i + 32)) 15 = smG (fun i => smG (fun t => if L 0 (t + 16) = i + 32 then 1 else 0) 31) 15 := smG_ext 15 (fun i h1 h2 => (W.mb.cnt (a := 16) (m := 31) ⟨by omega, by omega⟩ ⟨by omega, by omega⟩ (fun t t1 t2 t3 => by have := W.mem ⟨t1, t2⟩ (by omega); omega)).symm)
  rw [e, smG_swap]
  refine smG_ext 31 fun t t1 t2 => ?_
  show smG (fun g => if L 0 (t + 16) = g + 32 then 1 else 0) 15 = if 32 ≤ L 0 (t + 16) ∧ L 0 (t + 16) < 47 then 1 else 0
  by_cases z : 32 ≤ L 0 (t + 16) ∧ L 0 (t + 16) < 47
  · rw [if_pos z]
    have e2 : ∀ o : Int, 0 ≤ o → o < (15 : Nat) → (if L 0 (t + 16) = o + 32 then (1 : Int) else 0) = if o = L 0 (t + 16) - 32 then (fun _ => (1 : Int)) o else 0 := by
      intro o _ _
      by_cases y : L 0 (t + 16) = o + 32
      · rw [if_pos y, if_pos (by omega)]
      · rw [if_neg y, if_neg (by omega)]
    rw [smG_ext 15 e2, smG_one (fun _ => (1 : Int)) (L 0 (t + 16) - 32) 15 (by omega) (by omega)]
  · rw [if_neg z]
    exact smG_zero 15 (fun o _ _ => if_neg (by omega))
theorem nodN (L : Mem) : smG (fun i => if L 0 (i + 16) = -1 then 0 else 1) 31 = gpN L + spN L := by
  rw [show (31 : Nat) = 16 + 15 from rfl, smG_app]
  unfold gpN spN
  congr 1
/-- groups, splits, the root and the floating ones -/
theorem Wf.cntN {L : Mem} {q : Int} (W : Wf L q) (F : Fu L) : 2 * spN L + L 2 47 + L 2 48 ≤ gpN L + spN L ∧ gpN L ≤ opN L := by
  have h1 := nodN L
  have h2 := W.mb.cnt (h := 47) (a := 16) (m := 31) ⟨by omega, by omega⟩ ⟨by omega, by omega⟩ (fun t t1 t2 t3 => by have := W.mem ⟨t1, t2⟩ (by omega); omega)
  have h3 := W.mb.cnt (h := 48) (a := 16) (m := 31) ⟨by omega, by omega⟩ ⟨by omega, by omega⟩ (fun t t1 t2 t3 => by have := W.mem ⟨t1, t2⟩ (by omega); omega)
  have h4 := W.cntS
  have h5 : smG (fun i => if L 0 (i + 16) = -1 then 0 else 1) 31 = smG (fun i => (if 32 ≤ L 0 (i + 16) ∧ L 0 (i + 16) < 47 then 1 else 0) + ((if L 0 (i + 16) = 47 then 1 else 0) + (if L 0 (i + 16) = 48 then 1 else 0))) 31 := by
    refine smG_ext 31 fun i i1 i2 => ?_
    have a := W.grp (i + 16) (by omega)
    have b := W.spl (i + 16)
    show (if L 0 (i + 16) = -1 then (0 : Int) else 1) = (if 32 ≤ L 0 (i + 16) ∧ L 0 (i + 16) < 47 then 1 else 0) + ((if L 0 (i + 16) = 47 then 1 else 0) + (if L 0 (i + 16) = 48 then 1 else 0))
    by_cases c : i + 16 < 32
    · have := a c; grind
    · have := b (by omega) (by omega); grind
  rw [smG_add, smG_add, h2, h3, ← h4, h1] at h5
  have h6 : smG (fun i => (if L 0 (i + 32) = -1 then 0 else 1) + (if L 0 (i + 32) = -1 then 0 else 1)) 15 ≤ smG (fun i => L 2 (i + 32)) 15 := by
    refine smG_mono 15 fun i i1 i2 => ?_
    have := F (i + 32) (by omega) (by omega)
    have n := W.mb.nng (i + 32) (by omega) (by omega)
    show (if L 0 (i + 32) = -1 then (0 : Int) else 1) + (if L 0 (i + 32) = -1 then 0 else 1) ≤ L 2 (i + 32)
    grind
  rw [smG_add] at h6
  have h7 : gpN L ≤ smG (fun i => L 2 (i + 16)) 16 := by
    refine smG_mono 16 fun i i1 i2 => ?_
    have := F (i + 16) (by omega) (by omega)
    have n := W.mb.nng (i + 16) (by omega) (by omega)
    show (if L 0 (i + 16) = -1 then (0 : Int) else 1) ≤ L 2 (i + 16)
    grind
  rw [W.cntG] at h7
  refine ⟨?_, h7⟩
  have : smG (fun i => if L 0 (i + 32) = -1 then 0 else 1) 15 = spN L := rfl
  omega
/-- with one pane closed there is a group free -/
theorem Wf.freeG {L : Mem} {q : Int} (W : Wf L q) (F : Fu L) {p : Int} (hp : 0 ≤ p ∧ p < 16) (h : L 0 p = -1) : (16 ≤ unuF L 16 32 ∧ unuF L 16 32 < 32) ∧ L 2 (unuF L 16 32) = 0 ∧ gpN L ≤ 15 := by
  have a : opN L ≤ (16 : Nat) - 1 := smG_lt _ p 16 (fun o _ _ => by show (if L 0 o = -1 then (0 : Int) else 1) ≤ 1; split <;> omega) hp (by show (if L 0 p = -1 then (0 : Int) else 1) ≤ 0; rw [if_pos h]; omega)
  have c := (W.cntN F).2
  rcases unuG_get (L := L) (e := 32) 16 with ⟨h1, h2⟩ | ⟨h1, h2⟩
  · have b := smG_ge (fun i => L 2 (i + 16)) 1 16 (fun i i1 i2 => by
      have := h2 (i + 16) (by omega) (by omega)
      have n := W.mb.nng (i + 16) (by omega) (by omega)
      show 1 ≤ L 2 (i + 16)
      omega)
    rw [W.cntG] at b
    omega
  · exact ⟨⟨by have := h1.1; show 16 ≤ unuG L 32 16; omega, h1.2⟩, h2, by omega⟩
section RL
variable {u : Int → Int} {L T : Mem} {q kq : Int}
theorem Rl.freeN (R : Rl u L T q kq) (h : gpN L + spN L ≤ 30) : (0 ≤ frT T ∧ frT T < 32) ∧ T 0 (frT T) = 0 := by
  rcases fmG_get (f := ind T 0 0) (e := 32) 32 with ⟨h1, h2⟩ | ⟨h1, h2⟩
  · have b := smG_ge (fun o => if T 0 o = 0 then 0 else 1) 1 32 (fun o o1 o2 => by
      have := h2 o (by omega) (by omega)
      show 1 ≤ (if T 0 o = 0 then (0 : Int) else 1)
      unfold ind at this
      grind)
    have c : smG (fun o => if T 0 o = 0 then 0 else 1) 32 = smG (fun i => if Us L q (i + 16) then (if T 0 (u (i + 16)) = 0 then 0 else 1) else 0) 31 := by
      refine smG_name (u := fun i => u (i + 16)) (fun i => Us L q (i + 16)) 31 32 (fun g _ _ hu => R.rng _ hu) (fun g k _ _ _ _ hg hk e => ?_) (fun o o1 o2 o3 => ?_)
      · have := R.inj _ _ hg hk e; omega
      · obtain ⟨g, g1, g2⟩ := R.sur o o1 o2 (by intro z; apply o3; show (if T 0 o = 0 then (0 : Int) else 1) = 0; rw [if_pos z])
        exact ⟨g - 16, by have := g1.1; omega, by have := g1.1; omega, by rw [show g - 16 + 16 = g from by omega]; exact g1, by show u (g - 16 + 16) = o; rw [show g - 16 + 16 = g from by omega]; exact g2⟩
    have d : smG (fun i => if Us L q (i + 16) then (if T 0 (u (i + 16)) = 0 then 0 else 1) else 0) 31 ≤ smG (fun i => (if L 0 (i + 16) = -1 then 0 else 1) + (if i = q - 16 then 1 else 0)) 31 := by
      refine smG_mono 31 fun i i1 i2 => ?_
      show (if Us L q (i + 16) then (if T 0 (u (i + 16)) = 0 then (0 : Int) else 1) else 0) ≤ (if L 0 (i + 16) = -1 then 0 else 1) + (if i = q - 16 then 1 else 0)
      by_cases us : Us L q (i + 16)
      · have := us.2
        grind
      · rw [if_neg us]
        grind
    have e : smG (fun i => if i = q - 16 then (1 : Int) else 0) 31 ≤ 1 := by
      by_cases r : 0 ≤ q - 16 ∧ q - 16 < 31
      · have := smG_one (fun _ => (1 : Int)) (q - 16) 31 r.1 r.2
        omega
      · rw [smG_zero 31 (fun o _ _ => if_neg (by omega))]; omega
    rw [smG_add, nodN] at d
    omega
  · refine ⟨⟨by have := h1.1; show 0 ≤ fmG (ind T 0 0) 32 32; omega, h1.2⟩, ?_⟩
    show T 0 (fmG (ind T 0 0) 32 32) = 0
    have h3 : ∀ o : Int, ind T 0 0 o = 1 → T 0 o = 0 := fun o h => by unfold ind at h; grind
    exact h3 _ h2
/-- ranks of sixteen at the most -/
theorem Wf.rankB (W : Wf L q) : ∃ r : Int → Nat, (∀ x : Int, r x ≤ 16) ∧ ∀ t : Int, 16 ≤ t → t < 47 → 32 ≤ L 0 t → L 0 t < 47 → r t < r (L 0 t) := by
  obtain ⟨r, hr⟩ := W.rank
  refine ⟨fun x => if x < 32 then 0 else (smG (fun i => if r (i + 32) < r x then 1 else 0) 15).toNat + 1, fun x => ?_, fun t h1 h2 h3 h4 => ?_⟩
  · show (if x < 32 then 0 else (smG (fun i => if r (i + 32) < r x then 1 else 0) 15).toNat + 1) ≤ 16
    have := smG_le (fun i => if r (i + 32) < r x then 1 else 0) 1 15 (fun o _ _ => by show (if r (o + 32) < r x then (1 : Int) else 0) ≤ 1; split <;> omega)
    split <;> omega
  · show (if t < 32 then 0 else (smG (fun i => if r (i + 32) < r t then 1 else 0) 15).toNat + 1) < (if L 0 t < 32 then 0 else (smG (fun i => if r (i + 32) < r (L 0 t) then 1 else 0) 15).toNat + 1)
    have a := hr t h1 h2 h3 h4
    rw [if_neg (show ¬ L 0 t < 32 by omega)]
    split
    · omega
    · have e : smG (fun i => (if r (i + 32) < r t then (1 : Int) else 0) + (if i = t - 32 then 1 else 0)) 15 ≤ smG (fun i => if r (i + 32) < r (L 0 t) then 1 else 0) 15 := by
        refine smG_mono 15 fun i i1 i2 => ?_
        show (if r (i + 32) < r t then (1 : Int) else 0) + (if i = t - 32 then 1 else 0) ≤ if r (i + 32) < r (L 0 t) then 1 else 0
        by_cases z : i = t - 32
        · rw [if_pos z, show i + 32 = t from by omega, if_pos a, if_neg (by omega)]; omega
        · rw [if_neg z]; split <;> split <;> omega
      rw [smG_add, smG_one (fun _ => (1 : Int)) (t - 32) 15 (by omega) (by omega)] at e
      have g := smG_ge (fun i => if r (i + 32) < r t then (1 : Int) else 0) 0 15 (fun o _ _ => by show (0 : Int) ≤ (if r (o + 32) < r t then (1 : Int) else 0); split <;> omega)
      omega
theorem Wf.rootG (W : Wf L (-1)) {r : Int → Nat} (hb : ∀ x : Int, r x ≤ 16) (hr : ∀ t : Int, 16 ≤ t → t < 47 → 32 ≤ L 0 t → L 0 t < 47 → r t < r (L 0 t)) : ∀ (n : Nat) (x : Int), 16 - r x ≤ n → Us L (-1) x → L 0 x ≠ 48 → L 2 47 = 1
  | 0, x, hn, hx, h => by
    have b := hx.1
    have a1 := W.grp x
    have a2 := W.spl x
    have a3 := hr x (by omega) (by omega)
    have a4 := hb (L 0 x)
    have a5 := W.mb.rng x (by omega) (by omega)
    have a6 := W.win
    have : L 0 x ≠ -1 := by have := hx.2; omega
    have e : L 0 x = 47 := by omega
    rw [e] at a5
    omega
  | n + 1, x, hn, hx, h => by
    have b := hx.1
    have a1 := W.grp x
    have a2 := W.spl x
    have a3 := hr x (by omega) (by omega)
    have a5 := W.mb.rng x (by omega) (by omega)
    have a6 := W.win
    have n1 : L 0 x ≠ -1 := by have := hx.2; omega
    by_cases e : L 0 x = 47
    · rw [e] at a5; omega
    · have o := W.own x (by omega) (by omega) n1 (by omega)
      have s := W.spl (L 0 x) (by omega) (by omega)
      exact W.rootG hb hr n (L 0 x) (by omega) ⟨⟨by omega, by omega⟩, Or.inl (by omega)⟩ (by omega)
/-- where there is a group in the tree there is a root -/
theorem Wf.rootE (W : Wf L (-1)) {x : Int} (hx : Us L (-1) x) (h : L 0 x ≠ 48) : L 2 47 = 1 := by
  obtain ⟨r, hb, hr⟩ := W.rankB
  exact W.rootG hb hr _ x (Nat.le_refl _) hx h
end RL
