/-! WHERE THE INVARIANT BEGINS: the memory of the two constructors -/
def SV (k : Nat) (i : Int) : Int := if k = 0 then (if i = 0 then 100 else if i = 1 then 60 else 0) else if k = 3 ∨ k = 14 ∨ k = 23 ∨ k = 32 ∨ k = 41 then (if 0 ≤ i ∧ i < 49 then -1 else 0) else 0
def s9F (i : Int) : Int := if i = 0 then 100 else if i = 1 then 60 else if 323 ≤ i ∧ i < 355 ∧ (i - 323) % 2 = 0 then -1 else 0
def MV (k : Nat) (i : Int) : Int := if 1 ≤ k ∧ k < 50 then SV (k - 1) i else if 52 ≤ k ∧ k < 248 then SV ((k - 52) % 49) i else if k = 248 then (if i = 4 then -1 else 0) else if k = 266 then (if 0 ≤ i ∧ i < 49 then -1 else 0) else if k = 289 then s9F i else 0
def mwS (z : Nat) : Mem := fun x i => MV (x - z) i
theorem SV_b (k : Nat) (i : Int) : -1 ≤ SV k i ∧ SV k i ≤ 100 := by
  unfold SV
  repeat' split
  all_goals omega
theorem s9F_b (i : Int) : -1 ≤ s9F i ∧ s9F i ≤ 100 := by
  unfold s9F
  repeat' split
  all_goals omega
theorem s9F_0 {i : Int} (h : 2 ≤ i ∧ (i < 323 ∨ 355 ≤ i)) : s9F i = 0 := by
  unfold s9F
  rw [if_neg (by omega), if_neg (by omega), if_neg (by omega)]
theorem s9F_1 {p : Int} (h : 0 ≤ p ∧ p < 16) : s9F (35 + 288 + 2 * p) = -1 := by
  unfold s9F
  rw [if_neg (by omega), if_neg (by omega), if_pos (by omega)]
theorem MV_b (k : Nat) (i : Int) : -1 ≤ MV k i ∧ MV k i ≤ 100 := by
  unfold MV
  split
  · exact SV_b _ _
  split
  · exact SV_b _ _
  split
  · split <;> omega
  split
  · split <;> omega
  split
  · exact s9F_b i
  · omega
theorem MV_0 {k : Nat} (h : 50 ≤ k) (h1 : k < 52 ∨ 248 ≤ k) (h2 : k ≠ 248) (h3 : k ≠ 266) (h4 : k ≠ 289) (i : Int) : MV k i = 0 := by
  unfold MV
  rw [if_neg (by omega), if_neg (by omega), if_neg h2, if_neg h3, if_neg h4]
theorem MV_248 (i : Int) : MV 248 i = if i = 4 then -1 else 0 := rfl
theorem MV_266 (i : Int) : MV 266 i = if 0 ≤ i ∧ i < 49 then -1 else 0 := rfl
theorem MV_289 (i : Int) : MV 289 i = s9F i := rfl
theorem mw_at (z k : Nat) (i : Int) : mwS z (z + k) i = MV k i := by unfold mwS; rw [Nat.add_sub_cancel_left]
theorem SI_mw {z s : Nat} (h : ∀ k, k < 49 → ∀ i, MV (s + k) i = SV k i) : SI (mwS z) (z + s) := by
  have wv : ∀ k, k < 49 → ∀ i, mwS z (z + s + k) i = SV k i := fun k hk i => by rw [Nat.add_assoc, mw_at, h k hk]
  refine ⟨⟨(wv 0 (by omega) 0).trans (by decide), (wv 0 (by omega) 1).trans (by decide), (wv 0 (by omega) 2).trans (by decide)⟩, fun i => (wv 1 (by omega) i).trans rfl, ⟨fun i => (wv 3 (by omega) i).trans rfl, fun k h1 h2 i => ?_⟩, fun i => (wv 12 (by omega) i).trans rfl, fun k hk => ⟨fun i => ?_, fun e h1 h2 i => ?_⟩⟩
  · rw [show z + s + 2 + 1 + k = z + s + (3 + k) by omega, wv _ (by omega) i]
    unfold SV
    rw [if_neg (by omega), if_neg (by omega)]
  · rw [show z + s + 13 + 9 * k + 1 = z + s + (14 + 9 * k) by omega, wv _ (by omega) i]
    unfold SV
    rw [if_neg (by omega), if_pos (by omega)]
  · rw [show z + s + 13 + 9 * k + 1 + e = z + s + (14 + 9 * k + e) by omega, wv _ (by omega) i]
    unfold SV
    rw [if_neg (by omega), if_neg (by omega)]
theorem SI_mw1 (z : Nat) : SI (mwS z) (z + 1) := SI_mw fun k hk i => by
  unfold MV
  rw [if_pos (by omega), show 1 + k - 1 = k by omega]
theorem SI_mwj (z j : Nat) (hj : j < 4) : SI (mwS z) (z + (52 + 49 * j)) := SI_mw fun k hk i => by
  unfold MV
  rw [if_neg (by omega), if_pos (by omega), show (52 + 49 * j + k - 52) % 49 = k by omega]
theorem LI_mw (z : Nat) : LI (mwS z) (z + 265) :=
  ⟨fun i => (mw_at z 266 i).trans (MV_266 i), fun k h1 h2 i => by
    rw [show z + 265 + 1 + k = z + (266 + k) by omega, mw_at, MV_0 (by omega) (by omega) (by omega) (by omega) (by omega)]⟩
/-! the same cells -/
theorem same_Ly {G : Gx} {la : Lam} {S : Sh} {m m' : Mem} {b : Nat} (hS : LayS S b) (hI : LI m b) (hJ : LI m' b) (e : Nat) (he : e ≤ 8) : ins G m la (b + e) (S.2 (b + e)) = ins G m' la (b + e) (S.2 (b + e)) := by
  by_cases h0 : e = 0
  · subst h0
    show ins G m la b (S.2 b) = ins G m' la b (S.2 b)
    rw [hS.1.2]
    rfl
  · by_cases h1 : e = 1
    · subst h1
      exact ins_off G _ (fun i => (hI.1 i).trans (hJ.1 i).symm) (fun _ => rfl)
    · have e1 : b + e = b + 1 + (e - 1) := by omega
      rw [e1]
      exact ins_off G _ (fun i => (hI.2 (e - 1) (by omega) (by omega) i).trans (hJ.2 (e - 1) (by omega) (by omega) i).symm) (fun _ => rfl)
theorem same_St {G : Gx} {la : Lam} {S : Sh} {m m' : Mem} {c : Nat} (hS : StS S c) (hI : SI m c) (hJ : SI m' c) (k : Nat) (hk : k < 49) : ins G m la (c + k) (S.2 (c + k)) = ins G m' la (c + k) (S.2 (c + k)) := by
  obtain ⟨s1, s2, s3, s4, s5, s6⟩ := hS
  obtain ⟨⟨i1, i2, i3⟩, i4, i5, i6, i7⟩ := hI
  obtain ⟨⟨j1, j2, j3⟩, j4, j5, j6, j7⟩ := hJ
  by_cases c0 : k = 0
  · subst c0
    show ins G m la c (S.2 c) = ins G m' la c (S.2 c)
    rw [s1.2]
    show (Sum.inr (5, [Value.int (I32 (m c 0)), Value.int (I32 (m c 1)), Value.int (I32 (m c 2)), Value.ref (c + 1), Value.ref (c + 2), Value.ref (c + 11), Value.ref (c + 12)]) : va_E) = Sum.inr (5, [Value.int (I32 (m' c 0)), Value.int (I32 (m' c 1)), Value.int (I32 (m' c 2)), Value.ref (c + 1), Value.ref (c + 2), Value.ref (c + 11), Value.ref (c + 12)])
    rw [i1, i2, i3, j1, j2, j3]
  by_cases c1 : k = 1
  · subst c1
    exact ins_off G _ (fun i => (i4 i).trans (j4 i).symm) (fun _ => rfl)
  by_cases c2 : k < 11
  · rw [show c + k = c + 2 + (k - 2) by omega]
    exact same_Ly s3 i5 j5 (k - 2) (by omega)
  by_cases c3 : k = 11
  · subst c3
    rw [s4.2]
    rfl
  by_cases c4 : k = 12
  · subst c4
    exact ins_off G _ (fun i => (i6 i).trans (j6 i).symm) (fun _ => rfl)
  · rw [show c + k = c + 13 + 9 * ((k - 13) / 9) + (k - 13) % 9 by omega]
    exact same_Ly (s6 _ (by omega)) (i7 _ (by omega)) (j7 _ (by omega)) _ (by omega)
/-- what the two constructors leave -/
def Born (z : Nat) (m : Mem) : Prop := SI m (z + 1) ∧ (∀ i, m (z + 50) i = 0) ∧ (∀ k, k < 4 → SI m (z + 52 + 49 * k)) ∧ (∀ i, m (z + 249) i = 0) ∧ (∀ i, m (z + 250) i = 0) ∧ (∀ i, m (z + 248) i = if i = 4 then -1 else 0) ∧ (∀ k, k ≤ 13 → ∀ i, m (z + 251 + k) i = 0) ∧ LI m (z + 265) ∧ ∀ k, k ≤ 13 → ∀ i, m (z + 274 + k) i = 0
theorem same_all {G : Gx} {la : Lam} {S : Sh} {m : Mem} {z : Nat} (hD : DoS S z (z + 1) (z + 50) (z + 248) (z + 251) (z + 265) (z + 274)) (hB : Born z m) (k : Nat) (hk : k < 288) : ins G m la (z + k) (S.2 (z + k)) = ins G (mwS z) la (z + k) (S.2 (z + k)) := by
  obtain ⟨d1, d2, d3, d4, d5, d6, d7, -⟩ := hD
  obtain ⟨b1, b2, b3, b4, b5, b6, b7, b8, b9⟩ := hB
  have row : (∀ i, m (z + k) i = MV k i) → ins G m la (z + k) (S.2 (z + k)) = ins G (mwS z) la (z + k) (S.2 (z + k)) := fun h => ins_off G _ (fun i => (h i).trans (mw_at z k i).symm) (fun _ => rfl)
  by_cases c0 : k = 0
  · subst c0
    show ins G m la z (S.2 z) = ins G (mwS z) la z (S.2 z)
    rw [d1.2]
    rfl
  by_cases c1 : k < 50
  · rw [show z + k = z + 1 + (k - 1) by omega]
    exact same_St d2 b1 (SI_mw1 z) (k - 1) (by omega)
  by_cases c2 : k = 50
  · subst c2
    exact row fun i => (b2 i).trans (MV_0 (by omega) (by omega) (by omega) (by omega) (by omega) i).symm
  by_cases c3 : k = 51
  · subst c3
    have e := d3.2.1.2
    show ins G m la (z + 51) (S.2 (z + 50 + 1)) = ins G (mwS z) la (z + 51) (S.2 (z + 50 + 1))
    rw [e]
    rfl
  by_cases c4 : k < 248
  · have hj : (k - 52) / 49 < 4 := by omega
    have h1 := d3.2.2 _ hj
    have h2 := b3 _ hj
    have h3 := SI_mwj z _ hj
    rw [show z + 50 + 2 + 49 * ((k - 52) / 49) = z + 52 + 49 * ((k - 52) / 49) by omega] at h1
    rw [show z + (52 + 49 * ((k - 52) / 49)) = z + 52 + 49 * ((k - 52) / 49) by omega] at h3
    rw [show z + k = z + 52 + 49 * ((k - 52) / 49) + (k - 52) % 49 by omega]
    exact same_St h1 h2 h3 _ (by omega)
  by_cases c5 : k = 248
  · subst c5
    exact row fun i => (b6 i).trans (MV_248 i).symm
  by_cases c6 : k = 249
  · subst c6
    exact row fun i => (b4 i).trans (MV_0 (by omega) (by omega) (by omega) (by omega) (by omega) i).symm
  by_cases c7 : k = 250
  · subst c7
    exact row fun i => (b5 i).trans (MV_0 (by omega) (by omega) (by omega) (by omega) (by omega) i).symm
  by_cases c8 : k < 265
  · have e := b7 (k - 251) (by omega)
    rw [show z + 251 + (k - 251) = z + k by omega] at e
    exact row fun i => (e i).trans (MV_0 (by omega) (by omega) (by omega) (by omega) (by omega) i).symm
  by_cases c9 : k < 274
  · rw [show z + k = z + 265 + (k - 265) by omega]
    exact same_Ly d6 b8 (LI_mw z) (k - 265) (by omega)
  · have e := b9 (k - 274) (by omega)
    rw [show z + 274 + (k - 274) = z + k by omega] at e
    exact row fun i => (e i).trans (MV_0 (by omega) (by omega) (by omega) (by omega) (by omega) i).symm
theorem wl_same {G : Gx} {S : Sh} {m m' : Mem} {la : Lam} (h : ∀ a, a ∈ S.1 → ins G m la a (S.2 a) = ins G m' la a (S.2 a)) : wl G S m la = wl G S m' la := by
  show List.map _ _ = List.map _ _
  exact List.map_congr_left fun a ha => by
    show (a, ins G m la a (S.2 a)) = (a, ins G m' la a (S.2 a))
    rw [h a ha]
theorem Hr.ge {G : Gx} {S : Sh} {n : Nat} {mu : Mem} {la : Lam} {H : Heap} (h : Hr G S n mu la H) {a : Nat} (ha : a ∈ S.1) : gZ G ≤ a := by
  obtain ⟨j, hj, -⟩ := h.obj (x := S.2 a) ⟨ha, rfl⟩
  exact h.2.1.2 j _ hj
theorem V_mem {X : Cx} {pc : Nat} {r : Rg} {st : List Value} {S : Sh} {n : Nat} {mu mu' : Mem} {la : Lam} {k sl : Nat} (h : ∀ a, gZ (xG X) ≤ a → a < n → ins (xG X) mu la a (S.2 a) = ins (xG X) mu' la a (S.2 a)) (kk : V X pc r st S n mu' la k sl) : V X pc r st S n mu la k sl := fun H locs ls hH hS hl => by
  have e := wl_same (la := la) fun a ha => h a (hH.ge ha) (hH.lt ha)
  refine kk H locs ls ?_ hS hl
  obtain ⟨h1, h2, h3, h4⟩ := hH
  rw [e] at h1 h2
  exact ⟨h1, h2, h3, h4⟩
/-! the empty layout -/
def E0 : Mem := fun k i => if k = 0 then (if 0 ≤ i ∧ i < 49 then -1 else 0) else 0
theorem E0_0 {i : Int} (h1 : 0 ≤ i) (h2 : i < 49) : E0 0 i = -1 := by unfold E0; rw [if_pos rfl, if_pos ⟨h1, h2⟩]
theorem E0_k {k : Nat} (h : k ≠ 0) (i : Int) : E0 k i = 0 := by unfold E0; rw [if_neg h]
theorem E0_2 (i : Int) : E0 2 i = 0 := E0_k (by decide) i
theorem E0_U (g : Int) : ¬ Us E0 (-1) g := fun h => by
  obtain ⟨h1, h2⟩ := h
  have := E0_0 (i := g) (by omega) (by omega)
  omega
theorem lay_E0 (z : Nat) : lay (mwS z) (z + 1 + 2) = E0 := by
  have e := SI_mw1 z
  funext k i
  show (if k ≤ 7 then mwS z (z + 1 + 2 + 1 + k) i else 0) = E0 k i
  by_cases h0 : k = 0
  · subst h0
    rw [if_pos (by decide)]
    exact e.2.2.1.1 i
  · rw [E0_k h0]
    by_cases h : k ≤ 7
    · rw [if_pos h]
      exact e.2.2.1.2 k (by omega) h i
    · rw [if_neg h]
theorem trS_9 (w : Nat) (i : Int) : trS s9F 35 w i = if w ≤ 8 then s9F (35 + 9 * i + w) else if w = 9 then s9F (35 + 288 + 2 * i) else s9F (35 + 288 + 2 * i + 1) := rfl
theorem Wf_E0 : Wf E0 (-1) := by
  refine Wf.mk (Mb.mk ?_ ?_ ?_ ?_ ?_) ?_ ?_ ?_ ?_ ?_ ?_ ?_ ?_ ?_ ?_
  · exact fun t h1 h2 => Or.inl (E0_0 h1 h2)
  · exact fun h h1 h2 => by rw [E0_2]; omega
  · exact fun t h1 h2 h3 => absurd (E0_0 h1 h2) h3
  · exact fun t u h1 h2 h3 h4 h5 _ _ => absurd (E0_0 h1 h2) h5
  · exact fun h i h1 h2 h3 h4 => by rw [E0_2] at h4; omega
  · exact fun p h1 h2 => Or.inl (E0_0 h1 (by omega))
  · exact fun g h1 h2 => Or.inl (E0_0 (by omega) (by omega))
  · exact fun s h1 h2 => Or.inl (E0_0 (by omega) (by omega))
  · exact fun t h1 h2 h3 _ => absurd (E0_0 h1 h2) h3
  · exact E0_0 (by omega) (by omega)
  · exact E0_0 (by omega) (by omega)
  · rw [E0_2]; omega
  · exact fun s h1 h2 => Or.inl (E0_k (by decide) _)
  · exact Or.inl rfl
  · exact ⟨fun _ => 0, fun t h1 h2 h3 h4 => by
      have := E0_0 (i := t) (by omega) (by omega)
      omega⟩
theorem Rl_E0 : Rl (fun _ => 0) E0 (trS s9F 35) (-1) 1 := by
  refine Rl.mk Wf_E0 (Or.inl rfl) ?_ ?_ ?_ ?_ ?_ ?_ ?_ ?_ ?_ ?_ ?_
  · exact fun g h => absurd h (E0_U g)
  · exact fun g h h1 _ _ => absurd h1 (E0_U g)
  · intro o h1 h2 h3
    refine absurd ?_ h3
    rw [trS_9, if_pos (by decide)]
    exact s9F_0 (by omega)
  · exact fun g h => absurd h (E0_U g)
  · exact fun g h => absurd h (E0_U g)
  · exact fun g h _ => absurd h (E0_U g)
  · exact fun g h _ _ => absurd h (E0_U g)
  · exact fun g h _ => absurd h (E0_U g)
  · exact fun g h _ => absurd h (E0_U g)
  · intro p h1 h2
    rw [if_pos (E0_0 h1 (by omega)), trS_9, if_neg (by decide), if_pos rfl]
    exact s9F_1 ⟨h1, h2⟩
  · exact fun p h1 h2 h3 => absurd (E0_0 h1 (by omega)) h3
theorem LR_E0 : LR 1000000 E0 (trS s9F 35) 0 := by
  refine LR.mk ⟨fun _ => 0, Rl_E0⟩ ?_ ?_ (Vl.mk ?_ ?_) ?_
  · exact fun g h1 h2 => ⟨fun _ => E0_2 g, fun h => absurd (E0_0 (by omega) (by omega)) h⟩
  · exact fun p h1 h2 => E0_0 h1 (by omega)
  · intro t h1 h2 h3
    obtain ⟨h4, h5⟩ := h3
    have := E0_0 h1 h2
    omega
  · intro g h1 h2 h3
    have := E0_0 (i := g) (by omega) (by omega)
    omega
  · refine ⟨fun w i _ => ?_, fun i hi => ?_, fun i hi => ?_⟩
    · rw [trS_9]
      split
      · have := s9F_b (35 + 9 * i + w)
        omega
      split
      · have := s9F_b (35 + 288 + 2 * i)
        omega
      · have := s9F_b (35 + 288 + 2 * i + 1)
        omega
    · have h2 : 0 ≤ i ∧ i < 32 := hi
      rw [trS_9, if_pos (by decide), s9F_0 (by omega)]
      omega
    · have h2 : 0 ≤ i ∧ i < 16 := hi
      rw [trS_9, if_neg (by decide), if_pos rfl, s9F_1 h2]
      omega
def Z0 : Mem := fun _ _ => 0
theorem Z0_e (k : Nat) (i : Int) : Z0 k i = 0 := rfl
theorem pl_Z0 (z : Nat) : pl (mwS z) (z + 251) = Z0 := by
  funext k i
  show (if k < 14 then mwS z (z + 251 + k) i else 0) = 0
  by_cases h : k < 14
  · rw [if_pos h, Nat.add_assoc, mw_at, MV_0 (by omega) (by omega) (by omega) (by omega) (by omega)]
  · rw [if_neg h]
theorem Ord_E0 : Ord E0 Z0 := by
  refine Ord.mk ?_ ?_ ?_ ?_ ?_ ?_ ?_ ?_ ?_ ?_
  · rw [Z0_e]; omega
  · exact fun k h1 h2 => by rw [Z0_e] at h2; omega
  · exact fun k l h1 h2 _ _ _ => by rw [Z0_e] at h2; omega
  · exact fun x hx => absurd hx.1 (E0_U x)
  · exact fun h => by rw [Z0_e] at h; omega
  · exact fun _ => E0_2 47
  · exact fun k h1 h2 => by rw [Z0_e] at h2; omega
  · exact fun k h1 h2 => by rw [Z0_e] at h2; omega
  · exact fun h => by rw [Z0_e] at h; omega
  · rfl
theorem PlE_E0 (f : Int → Int) (w h : Int) (rk : Int → Nat) : PlE E0 f w h rk Z0 := by
  refine PlE.mk (Pl0.mk ?_ Ord_E0 ?_ (Tp.mk ?_ ?_)) ?_ ?_ ?_ ?_
  · exact fun h i h1 h2 h3 h4 => by rw [E0_2] at h4; omega
  · exact fun x hx => absurd hx.1 (E0_U x)
  · intro g ax h1 h2 h3
    have := E0_0 (i := g) (by omega) (by omega)
    omega
  · exact fun x hx => absurd hx.1 (E0_U x)
  · exact fun x hx => absurd hx.1 (E0_U x)
  · exact fun x hx => absurd hx.1 (E0_U x)
  · rfl
  · rfl
theorem Inv_start (z : Nat) : Inv 1000000 (mwS z) (z + 1) (z + 50) (z + 248) (z + 251) (z + 265) (z + 288) := by
  have v : ∀ (k : Nat) (i : Int), mwS z (z + k) i = MV k i := mw_at z
  have es : mwS z (z + 288 + 1) = s9F := funext fun i => (v 289 i).trans (MV_289 i)
  have e4 : mwS z (z + 288) 4 = 0 := (v 288 4).trans (by decide)
  have e6 : mwS z (z + 288) 6 = 0 := (v 288 6).trans (by decide)
  have w0 : mwS z (z + 1) 0 = 100 := (v 1 0).trans (by decide)
  have w1 : mwS z (z + 1) 1 = 60 := (v 1 1).trans (by decide)
  have w2 : mwS z (z + 1) 2 = 0 := (v 1 2).trans (by decide)
  refine ⟨?_, fun x i => ?_⟩
  · rw [es, e4, e6]
    refine CR.mk (RS.mk ?_ ?_ ?_ ?_ ?_ ?_ ?_ ?_) (Hy.mk ?_ ?_ ?_) ?_ ?_ ?_ ?_
    · rw [w0]; exact ⟨by decide, by omega, by omega⟩
    · rw [w1]; exact ⟨by decide, by omega, by omega⟩
    · rw [w2]; exact ⟨by decide, by omega, by omega⟩
    · intro i h1 h2
      have e : mwS z (z + 1 + 1) i = 0 := (SI_mw1 z).2.1 i
      rw [e, s9F_0 (by omega)]
      omega
    · intro p ax h1 h2
      rw [w2] at h2
      omega
    · rw [lay_E0, w2]
      exact LR_E0
    · intro j hj
      have e : mwS z (z + 1 + 12) j = 0 := (SI_mw1 z).2.2.2.1 j
      rw [e, s9F_0 (by omega)]
      exact ⟨rfl, Or.inl rfl⟩
    · intro j hj h
      have e : mwS z (z + 1 + 12) j = 0 := (SI_mw1 z).2.2.2.1 j
      rw [e] at h
      omega
    · exact ⟨(v 50 1).trans (by decide), by omega, by omega⟩
    · have e : mwS z (z + 50) 2 = 0 := (v 50 2).trans (by decide)
      rw [e]
      omega
    · intro k hk
      omega
    · exact ⟨(v 248 2).trans (by decide), by omega, fun i h1 h2 => by omega⟩
    · have e : mwS z (z + 248) 5 = 0 := (v 248 5).trans (by decide)
      rw [e]
      omega
    · refine ⟨fun _ => 0, ?_, ?_⟩
      · rw [lay_E0]
        exact ⟨fun _ => Nat.zero_le _, fun t h1 h2 h3 h4 => by
          have := E0_0 (i := t) (by omega) (by omega)
          omega⟩
      · rw [lay_E0, pl_Z0]
        exact PlE_E0 _ _ _ _
    · intro x i _
      have := MV_b (x - z) i
      show -1000000 ≤ MV (x - z) i ∧ MV (x - z) i ≤ 1000000
      omega
  · have := MV_b (x - z) i
    show -2147483648 ≤ MV (x - z) i ∧ MV (x - z) i ≤ 2147483647
    omega
theorem Od_start (z : Nat) : Od (z + 1) (z + 50) (z + 248) (z + 251) (z + 265) (z + 274) (z + 288) := by
  unfold Od
  omega

/-! both sides at the start -/
theorem Tn_E0 {x : Int} (h : Tn E0 x) : False := h.2.1 (E0_0 (by have := h.1; omega) (by have := h.1; omega))
theorem Wi_start {z : Nat} {m : Mem} (e : ∀ (x : Nat) (i : Int), x < z + 288 → m x i = mwS z x i) (R : R32 m) (e0 : m (z + 288) 0 = 100 ∧ m (z + 288) 1 = 60) (e2 : ∀ i : Int, 2 ≤ i → m (z + 288) i = 0) :
    Wi 1000000 m (z + 1) (z + 50) (z + 248) (z + 251) (z + 265) (z + 288) := by
  have v : ∀ (k : Nat) (i : Int), k < 288 → m (z + k) i = MV k i := fun k i hk => (e _ _ (by omega)).trans (mw_at z k i)
  have w0 : m (z + 1) 0 = 100 := (v 1 0 (by omega)).trans (by decide)
  have w1 : m (z + 1) 1 = 60 := (v 1 1 (by omega)).trans (by decide)
  have w2 : m (z + 1) 2 = 0 := (v 1 2 (by omega)).trans (by decide)
  have el : lay m (z + 1 + 2) = E0 := by
    rw [← lay_E0 z]
    exact lay_off fun x i hx => e x i (by omega)
  have C : Cw 1000000 (mwS z) (z + 1) (z + 50) (z + 248) (z + 251) (z + 265) := ⟨⟨_, _, _, _, _, (Inv_start z).1⟩, (Inv_start z).2⟩
  refine Wi.mk (C.off (Od_start z) e R) ?_ (by rw [w2]; omega) ⟨by rw [w0, e0.1], by rw [w1, e0.2]⟩ (fun k k1 k2 => by rw [w2] at k2; omega)
  rw [el, w2]
  refine Lr.mk ⟨fun _ => 0, fun _ => 0, Sg.mk (fun x h => (Tn_E0 h).elim) (fun x h => (Tn_E0 h).elim) (fun x h => (Tn_E0 h).elim) (fun x h => (Tn_E0 h).elim) (fun x h => (Tn_E0 h).elim) (fun x h => (Tn_E0 h).elim) (fun x _ h => (Tn_E0 h).elim) (fun x h => (Tn_E0 h).elim) (fun x _ h => (Tn_E0 h).elim) (fun x _ h => (Tn_E0 h).elim) (fun i h1 h2 => ?_) (fun _ => e2 3 (by omega)) (fun x _ _ => Or.inl (E0_k (by decide) _)) ?_⟩ (e2 2 (by omega)) (fun k h1 h2 => by omega) (fun k h1 h2 => by omega) (fun g h1 h2 h3 => ?_) ?_ (fun t h1 h2 h3 => ?_) (fun k h1 h2 => by omega)
  · rw [e2 3 (by omega)] at h2; omega
  · rw [e2 3 (by omega)]; omega
  · have := E0_0 (i := g) (by omega) (by omega)
    omega
  · rw [e2 4 (by omega), E0_2]
  · have := E0_0 (i := t) (by omega) (by omega)
    omega
