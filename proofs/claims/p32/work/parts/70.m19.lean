/-! the least sizes -/
theorem wr_addl (a b : Int) : wr (wr a + b) = wr (a + b) := by
  unfold wr
  rw [← I32_add, ← I32_add, show I32 (I32 a).toInt = I32 a from I32_wr a]
/-- the chain above a node -/
def upn (L : Mem) (g : Int) : Nat → Int
  | 0 => g
  | k + 1 => L 0 (upn L g k)
def Dn (L : Mem) (g x : Int) : Prop := ∃ k : Nat, upn L g k = x ∧ ∀ j : Nat, j < k → isZ (L 0 (upn L g j)) ∧ (16 ≤ upn L g j ∧ upn L g j < 47)
theorem Dn.rank {L : Mem} {r : Int → Nat} (hr : ∀ t : Int, 16 ≤ t → t < 47 → 32 ≤ L 0 t → L 0 t < 47 → r t < r (L 0 t)) {g : Int} : ∀ (d k : Nat), (∀ j : Nat, j < k + d → isZ (L 0 (upn L g j)) ∧ (16 ≤ upn L g j ∧ upn L g j < 47)) → r (upn L g k) + d ≤ r (upn L g (k + d))
  | 0, k, _ => by simp
  | d + 1, k, h => by
    have a := Dn.rank hr d k (fun j hj => h j (by omega))
    have b := h (k + d) (by omega)
    have c := hr (upn L g (k + d)) b.2.1 b.2.2 b.1.1 b.1.2
    show r (upn L g k) + (d + 1) ≤ r (L 0 (upn L g (k + d)))
    omega
/-- how many groups lie below a node -/
noncomputable def lvN (L : Mem) (x : Int) : Int := by
  classical
  exact smG (fun i => if InT L (i + 16) ∧ Dn L (i + 16) x then 1 else 0) 16
theorem smG_at1 {f : Int → Int} : ∀ m : Nat, (∀ o : Int, 0 ≤ o → o < m → f o = 0 ∨ f o = 1) → (∀ o v : Int, 0 ≤ o → o < m → 0 ≤ v → v < m → f o = 1 → f v = 1 → o = v) → smG f m ≤ 1
  | 0, _, _ => by show (0 : Int) ≤ 1; omega
  | m + 1, h, hi => by
    unfold smG
    have ih := smG_at1 m (fun o h1 h2 => h o h1 (by omega)) (fun o v h1 h2 h3 h4 => hi o v h1 (by omega) h3 (by omega))
    rcases h m (by omega) (by omega) with z | z
    · omega
    · rw [smG_zero m (fun o h1 h2 => by
        rcases h o h1 (by omega) with y | y
        · exact y
        · have := hi o m h1 (by omega) (by omega) (by omega) y z; omega)]
      omega
theorem lvN_g {L : Mem} {x : Int} (h : InT L x) (h32 : x < 32) : 1 ≤ lvN L x := by
  classical
  have b := h.rg
  have e : smG (fun i => if i = x - 16 then 1 else 0) 16 ≤ lvN L x := by
    refine smG_mono 16 fun i i1 i2 => ?_
    show (if i = x - 16 then (1 : Int) else 0) ≤ if InT L (i + 16) ∧ Dn L (i + 16) x then 1 else 0
    by_cases z : i = x - 16
    · rw [if_pos z, show i + 16 = x by omega, if_pos ⟨h, 0, rfl, fun j hj => by omega⟩]; omega
    · rw [if_neg z]; split <;> omega
  rw [smG_one (fun _ => (1 : Int)) (x - 16) 16 (by omega) (by omega)] at e
  exact e
theorem lvN_b (L : Mem) (x : Int) : 0 ≤ lvN L x ∧ lvN L x ≤ 16 := by
  classical
  have a := smG_le (fun i => if InT L (i + 16) ∧ Dn L (i + 16) x then (1 : Int) else 0) 1 16 (fun o _ _ => by show (if _ then (1 : Int) else 0) ≤ 1; split <;> omega)
  have b := smG_ge (fun i => if InT L (i + 16) ∧ Dn L (i + 16) x then (1 : Int) else 0) 0 16 (fun o _ _ => by show (0 : Int) ≤ (if _ then (1 : Int) else 0); split <;> omega)
  have e : lvN L x = smG (fun i => if InT L (i + 16) ∧ Dn L (i + 16) x then (1 : Int) else 0) 16 := rfl
  omega
theorem lvN_s {L : Mem} (W : Wf L (-1)) {x : Int} (hx : isZ x) : smG (fun j => lvN L (mbrF L x j)) (L 2 x).toNat ≤ lvN L x := by
  classical
  obtain ⟨r, hr⟩ := W.rank
  have x1 := hx.1
  have x2 := hx.2
  have nn := W.mb.nng x (by omega) (by omega)
  have e : smG (fun j => lvN L (mbrF L x j)) (L 2 x).toNat = smG (fun i => smG (fun j => if InT L (i + 16) ∧ Dn L (i + 16) (mbrF L x j) then (1 : Int) else 0) (L 2 x).toNat) 16 := by
    rw [← smG_swap]
    rfl
  rw [e]
  refine smG_mono 16 fun i i1 i2 => ?_
  show smG (fun j => if InT L (i + 16) ∧ Dn L (i + 16) (mbrF L x j) then (1 : Int) else 0) (L 2 x).toNat ≤ if InT L (i + 16) ∧ Dn L (i + 16) x then 1 else 0
  have kid : ∀ j : Int, 0 ≤ j → j < ((L 2 x).toNat : Int) → (0 ≤ mbrF L x j ∧ mbrF L x j < 49) ∧ L 0 (mbrF L x j) = x ∧ L 1 (mbrF L x j) = j := fun j h1 h2 => mbrF_get W.mb ⟨by omega, by omega⟩ ⟨h1, by omega⟩
  have lift : ∀ j : Int, 0 ≤ j → j < ((L 2 x).toNat : Int) → ∀ k : Nat, upn L (i + 16) k = mbrF L x j → (∀ l : Nat, l < k → isZ (L 0 (upn L (i + 16) l)) ∧ (16 ≤ upn L (i + 16) l ∧ upn L (i + 16) l < 47)) → upn L (i + 16) (k + 1) = x ∧ ∀ l : Nat, l < k + 1 → isZ (L 0 (upn L (i + 16) l)) ∧ (16 ≤ upn L (i + 16) l ∧ upn L (i + 16) l < 47) := by
    intro j h1 h2 k e1 e2
    obtain ⟨a, b, c⟩ := kid j h1 h2
    refine ⟨by show L 0 (upn L (i + 16) k) = x; rw [e1, b], fun l hl => ?_⟩
    by_cases z : l = k
    · subst z
      rw [e1, b]
      exact ⟨hx, W.mem a (by omega)⟩
    · exact e2 l (by omega)
  by_cases y : InT L (i + 16) ∧ Dn L (i + 16) x
  · rw [if_pos y]
    refine smG_at1 _ (fun o _ _ => by show (if _ then (1 : Int) else 0) = 0 ∨ (if _ then (1 : Int) else 0) = 1; split <;> simp) (fun o v h1 h2 h3 h4 h5 h6 => ?_)
    have h5 : InT L (i + 16) ∧ Dn L (i + 16) (mbrF L x o) := by
      by_cases z : InT L (i + 16) ∧ Dn L (i + 16) (mbrF L x o)
      · exact z
      · have h5 : (if InT L (i + 16) ∧ Dn L (i + 16) (mbrF L x o) then (1 : Int) else 0) = 1 := h5
        rw [if_neg z] at h5; omega
    have h6 : InT L (i + 16) ∧ Dn L (i + 16) (mbrF L x v) := by
      by_cases z : InT L (i + 16) ∧ Dn L (i + 16) (mbrF L x v)
      · exact z
      · have h6 : (if InT L (i + 16) ∧ Dn L (i + 16) (mbrF L x v) then (1 : Int) else 0) = 1 := h6
        rw [if_neg z] at h6; omega
    obtain ⟨-, k, k1, k2⟩ := h5
    obtain ⟨-, m, m1, m2⟩ := h6
    obtain ⟨p1, p2⟩ := lift o h1 h2 k k1 k2
    obtain ⟨q1, q2⟩ := lift v h3 h4 m m1 m2
    have km : k = m := by
      rcases Nat.lt_trichotomy k m with z | z | z
      · have := Dn.rank hr (m - k) (k + 1) (fun j hj => q2 j (by omega))
        rw [show k + 1 + (m - k) = m + 1 by omega, p1, q1] at this
        omega
      · exact z
      · have := Dn.rank hr (k - m) (m + 1) (fun j hj => p2 j (by omega))
        rw [show m + 1 + (k - m) = k + 1 by omega, p1, q1] at this
        omega
    subst km
    have a := (kid o h1 h2).2.2
    have b := (kid v h3 h4).2.2
    rw [← k1, m1] at a
    omega
  · rw [if_neg y, smG_zero]
    · omega
    · intro o h1 h2
      show (if InT L (i + 16) ∧ Dn L (i + 16) (mbrF L x o) then (1 : Int) else 0) = 0
      rw [if_neg]
      rintro ⟨z1, k, k1, k2⟩
      obtain ⟨p1, p2⟩ := lift o h1 h2 k k1 k2
      exact y ⟨z1, k + 1, p1, p2⟩
/-- the greatest of a group's panes' least sizes -/
def gmx (f : Int → Int) (L : Mem) (x ax : Int) : Nat → Int
  | 0 => 0
  | j + 1 => max (gmx f L x ax j) (f (2 * mbrF L x j + ax))
def LeB (f : Int → Int) : Prop := ∀ p ax : Int, 0 ≤ p → p < 16 → (ax = 0 ∨ ax = 1) → 0 ≤ f (2 * p + ax) ∧ f (2 * p + ax) ≤ 60
/-- what the least sizes of a node are, from those of its children -/
def WE (f : Int → Int) (L : Mem) (V : Int → Int → Int) (x : Int) : Prop := ∀ ax : Int, ax = 0 ∨ ax = 1 →
  V x ax = if isZ x then (if L 5 (x - 32) = ax then wr (smG (fun j => V (mbrF L x j) ax) (L 2 x).toNat + L 2 x - 1) else mmG (fun j => V (mbrF L x j) ax) (L 2 x).toNat) else gmx f L x ax (L 2 x).toNat + ax
theorem mmG_ext {f g : Int → Int} : ∀ m : Nat, (∀ o : Int, 0 ≤ o → o < m → f o = g o) → mmG f m = mmG g m
  | 0, _ => rfl
  | m + 1, h => by
    unfold mmG
    rw [mmG_ext m (fun o h1 h2 => h o h1 (by omega)), h m (by omega) (by omega)]
theorem mmG_b {f : Int → Int} {c : Int} (hc : 0 ≤ c) : ∀ m : Nat, (∀ o : Int, 0 ≤ o → o < m → f o ≤ c) → 0 ≤ mmG f m ∧ mmG f m ≤ c
  | 0, _ => by show (0 : Int) ≤ 0 ∧ (0 : Int) ≤ c; omega
  | m + 1, h => by
    have ih := mmG_b hc m (fun o h1 h2 => h o h1 (by omega))
    have := h m (by omega) (by omega)
    unfold mmG
    split <;> omega
theorem mmG_ge {f : Int → Int} : ∀ m : Nat, ∀ o : Int, 0 ≤ o → o < m → f o ≤ mmG f m
  | 0, o, h1, h2 => by omega
  | m + 1, o, h1, h2 => by
    unfold mmG
    by_cases z : o = m
    · subst z; split <;> omega
    · have := mmG_ge m o h1 (by omega) (f := f)
      split <;> omega
theorem gmx_b {f : Int → Int} {L : Mem} (W : Wf L (-1)) (hf : LeB f) {x ax : Int} (hx : 16 ≤ x ∧ x < 32) (ha : ax = 0 ∨ ax = 1) : ∀ m : Nat, (m : Int) ≤ L 2 x → 0 ≤ gmx f L x ax m ∧ gmx f L x ax m ≤ 60
  | 0, _ => by show (0 : Int) ≤ 0 ∧ (0 : Int) ≤ 60; omega
  | m + 1, h => by
    have ih := gmx_b W hf hx ha m (by omega)
    obtain ⟨a, b, -⟩ := mbrF_get W.mb (h := x) (i := m) ⟨by omega, by omega⟩ ⟨by omega, by omega⟩
    have c := W.memG a (by omega)
    have d := hf (mbrF L x m) ax a.1 c ha
    show 0 ≤ max (gmx f L x ax m) (f (2 * mbrF L x m + ax)) ∧ max (gmx f L x ax m) (f (2 * mbrF L x m + ax)) ≤ 60
    omega
theorem kidT {L : Mem} (W : Wf L (-1)) {x j : Int} (hx : isZ x) (hj : 0 ≤ j ∧ j < L 2 x) : InT L (mbrF L x j) := by
  obtain ⟨a, b, -⟩ := mbrF_get W.mb (h := x) ⟨by have := hx.1; omega, by have := hx.2; omega⟩ hj
  exact InT.kid W hx a b
theorem WE.bnd {f : Int → Int} {L : Mem} {V : Int → Int → Int} (W : Wf L (-1)) (F : Fu L) (hf : LeB f) (h : ∀ x : Int, InT L x → WE f L V x) {r : Int → Nat} (hb : ∀ x : Int, r x ≤ 16) (hr : ∀ t : Int, 16 ≤ t → t < 47 → 32 ≤ L 0 t → L 0 t < 47 → r t < r (L 0 t)) :
    ∀ (n : Nat) (x : Int), r x ≤ n → InT L x → ∀ ax : Int, (ax = 0 ∨ ax = 1) → 0 ≤ V x ax ∧ V x ax + 1 ≤ 62 * lvN L x
  | n, x, hn, hx, ax, ha => by
    have b := hx.rg
    have e := h x hx ax ha
    by_cases z : isZ x
    · rw [if_pos z] at e
      have x0 : L 0 x ≠ -1 := by have := hx.1.2; omega
      have fx := ((F x b.1 b.2).2 x0).2 z.1
      have lv := lvN_s W z
      have lb := lvN_b L x
      have ih : ∀ j : Int, 0 ≤ j → j < ((L 2 x).toNat : Int) → 0 ≤ V (mbrF L x j) ax ∧ V (mbrF L x j) ax + 1 ≤ 62 * lvN L (mbrF L x j) := by
        intro j h1 h2
        obtain ⟨a, c, d⟩ := mbrF_get W.mb (h := x) (i := j) ⟨by omega, by omega⟩ ⟨h1, by omega⟩
        have m := W.mem a (by have := z.1; omega)
        have rr := hr (mbrF L x j) m.1 m.2 (by rw [c]; exact z.1) (by rw [c]; exact z.2)
        rw [c] at rr
        cases n with
        | zero => omega
        | succ n => exact WE.bnd W F hf h hb hr n (mbrF L x j) (by omega) (kidT W z ⟨h1, by omega⟩) ax ha
      have s1 : smG (fun j => V (mbrF L x j) ax + 1) (L 2 x).toNat ≤ smG (fun j => 62 * lvN L (mbrF L x j)) (L 2 x).toNat := smG_mono _ (fun j h1 h2 => (ih j h1 h2).2)
      have s2 : smG (fun j => 62 * lvN L (mbrF L x j)) (L 2 x).toNat = 62 * smG (fun j => lvN L (mbrF L x j)) (L 2 x).toNat := by
        generalize (L 2 x).toNat = m
        induction m with
        | zero => rfl
        | succ m ihm => unfold smG; rw [ihm, Int.mul_add]
      have s3 : smG (fun j => V (mbrF L x j) ax + 1) (L 2 x).toNat = smG (fun j => V (mbrF L x j) ax) (L 2 x).toNat + L 2 x := by
        rw [smG_add]
        have a := smG_le (fun _ => (1 : Int)) 1 (L 2 x).toNat (fun _ _ _ => Int.le_refl _)
        have b := smG_ge (fun _ => (1 : Int)) 1 (L 2 x).toNat (fun _ _ _ => Int.le_refl _)
        omega
      have s4 := smG_ge (fun j => V (mbrF L x j) ax) 0 (L 2 x).toNat (fun j h1 h2 => (ih j h1 h2).1)
      by_cases y : L 5 (x - 32) = ax
      · rw [if_pos y, wr_id (by omega)] at e
        omega
      · rw [if_neg y] at e
        have mb := mmG_b (f := fun j => V (mbrF L x j) ax) (c := 62 * lvN L x - 1) (by
          have := ih 0 (by omega) (by omega)
          have l0 := (lvN_b L (mbrF L x 0)).1
          have : smG (fun j => if j = 0 then (1 : Int) else 0) (L 2 x).toNat ≤ smG (fun j => lvN L (mbrF L x j)) (L 2 x).toNat := smG_mono _ (fun j h1 h2 => by
            show (if j = 0 then (1 : Int) else 0) ≤ lvN L (mbrF L x j)
            have := ih j h1 h2
            split <;> omega)
          rw [smG_one (fun _ => (1 : Int)) 0 _ (by omega) (by omega)] at this
          omega) (L 2 x).toNat (fun j h1 h2 => by
            have := ih j h1 h2
            have : smG (fun i => if i = j then lvN L (mbrF L x i) else 0) (L 2 x).toNat ≤ smG (fun i => lvN L (mbrF L x i)) (L 2 x).toNat := smG_mono _ (fun i i1 i2 => by
              show (if i = j then lvN L (mbrF L x i) else 0) ≤ lvN L (mbrF L x i)
              have := (lvN_b L (mbrF L x i)).1
              split <;> omega)
            rw [smG_one (fun i => lvN L (mbrF L x i)) j _ h1 h2] at this
            show V (mbrF L x j) ax ≤ _
            omega)
        omega
    · rw [if_neg z] at e
      have h32 : x < 32 := by unfold isZ at z; omega
      have nn := W.mb.nng x (by omega) (by omega)
      have g := gmx_b W hf (x := x) ⟨b.1, h32⟩ ha (L 2 x).toNat (by omega)
      have := lvN_g hx h32
      omega
theorem WE.uni {f : Int → Int} {L : Mem} {V V' : Int → Int → Int} (W : Wf L (-1)) (h : ∀ x : Int, InT L x → WE f L V x) (h' : ∀ x : Int, InT L x → WE f L V' x) {r : Int → Nat} (hb : ∀ x : Int, r x ≤ 16) (hr : ∀ t : Int, 16 ≤ t → t < 47 → 32 ≤ L 0 t → L 0 t < 47 → r t < r (L 0 t)) :
    ∀ (n : Nat) (x : Int), r x ≤ n → InT L x → ∀ ax : Int, (ax = 0 ∨ ax = 1) → V x ax = V' x ax
  | n, x, hn, hx, ax, ha => by
    have b := hx.rg
    rw [h x hx ax ha, h' x hx ax ha]
    by_cases z : isZ x
    · rw [if_pos z, if_pos z]
      have nn := W.mb.nng x (by omega) (by omega)
      have ih : ∀ j : Int, 0 ≤ j → j < ((L 2 x).toNat : Int) → V (mbrF L x j) ax = V' (mbrF L x j) ax := by
        intro j h1 h2
        obtain ⟨a, c, d⟩ := mbrF_get W.mb (h := x) (i := j) ⟨by omega, by omega⟩ ⟨h1, by omega⟩
        have m := W.mem a (by have := z.1; omega)
        have rr := hr (mbrF L x j) m.1 m.2 (by rw [c]; exact z.1) (by rw [c]; exact z.2)
        rw [c] at rr
        cases n with
        | zero => omega
        | succ n => exact WE.uni W h h' hb hr n (mbrF L x j) (by omega) (kidT W z ⟨h1, by omega⟩) ax ha
      rw [smG_ext _ ih, mmG_ext _ ih]
    · rw [if_neg z, if_neg z]
