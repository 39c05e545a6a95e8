/-! MATHEMATICS, the class's layout: who lies where -/
/-- members of a holder lie at the places 0 .. count-1, one at each -/
def Mb (L : Mem) : Prop :=
  (∀ t : Int, 0 ≤ t → t < 49 → L 0 t = -1 ∨ (16 ≤ L 0 t ∧ L 0 t < 49)) ∧
  (∀ h : Int, 16 ≤ h → h < 49 → 0 ≤ L 2 h) ∧
  (∀ t : Int, 0 ≤ t → t < 49 → L 0 t ≠ -1 → 0 ≤ L 1 t ∧ L 1 t < L 2 (L 0 t)) ∧
  (∀ t u : Int, 0 ≤ t → t < 49 → 0 ≤ u → u < 49 → L 0 t ≠ -1 → L 0 t = L 0 u → L 1 t = L 1 u → t = u) ∧
  (∀ h i : Int, 16 ≤ h → h < 49 → 0 ≤ i → i < L 2 h → ∃ t : Int, 0 ≤ t ∧ t < 49 ∧ L 0 t = h ∧ L 1 t = i)
theorem Mb.hol {L : Mem} (h9 : Mb L) : ∀ t : Int, 0 ≤ t → t < 49 → L 0 t = -1 ∨ (16 ≤ L 0 t ∧ L 0 t < 49) := h9.1
theorem Mb.nng {L : Mem} (h9 : Mb L) : ∀ h : Int, 16 ≤ h → h < 49 → 0 ≤ L 2 h := h9.2.1
theorem Mb.rng {L : Mem} (h9 : Mb L) : ∀ t : Int, 0 ≤ t → t < 49 → L 0 t ≠ -1 → 0 ≤ L 1 t ∧ L 1 t < L 2 (L 0 t) := h9.2.2.1
theorem Mb.inj {L : Mem} (h9 : Mb L) : ∀ t u : Int, 0 ≤ t → t < 49 → 0 ≤ u → u < 49 → L 0 t ≠ -1 → L 0 t = L 0 u → L 1 t = L 1 u → t = u := h9.2.2.2.1
theorem Mb.sur {L : Mem} (h9 : Mb L) : ∀ h i : Int, 16 ≤ h → h < 49 → 0 ≤ i → i < L 2 h → ∃ t : Int, 0 ≤ t ∧ t < 49 ∧ L 0 t = h ∧ L 1 t = i := h9.2.2.2.2
theorem Mb.mk {L : Mem} (h_hol : ∀ t : Int, 0 ≤ t → t < 49 → L 0 t = -1 ∨ (16 ≤ L 0 t ∧ L 0 t < 49)) (h_nng : ∀ h : Int, 16 ≤ h → h < 49 → 0 ≤ L 2 h) (h_rng : ∀ t : Int, 0 ≤ t → t < 49 → L 0 t ≠ -1 → 0 ≤ L 1 t ∧ L 1 t < L 2 (L 0 t)) (h_inj : ∀ t u : Int, 0 ≤ t → t < 49 → 0 ≤ u → u < 49 → L 0 t ≠ -1 → L 0 t = L 0 u → L 1 t = L 1 u → t = u) (h_sur : ∀ h i : Int, 16 ≤ h → h < 49 → 0 ≤ i → i < L 2 h → ∃ t : Int, 0 ≤ t ∧ t < 49 ∧ L 0 t = h ∧ L 1 t = i) : Mb L := ⟨h_hol, h_nng, h_rng, h_inj, h_sur⟩
theorem aL_0 {L : Mem} {i : Int} (h : 0 ≤ i ∧ i < 49) : aL L 0 i = L 0 i := if_pos h
theorem aL_1 {L : Mem} {i : Int} (h : 0 ≤ i ∧ i < 49) : aL L 1 i = L 1 i := if_pos h
theorem aL_2 {L : Mem} {i : Int} (h : 0 ≤ i ∧ i < 49) : aL L 2 i = L 2 i := if_pos h
theorem aL_3 {L : Mem} {i : Int} (h : 0 ≤ i ∧ i < 49) : aL L 3 i = L 3 i := if_pos h
theorem aL_4 {L : Mem} {i : Int} (h : 0 ≤ i ∧ i < 16) : aL L 4 i = L 4 i := if_pos h
theorem aL_5 {L : Mem} {i : Int} (h : 0 ≤ i ∧ i < 16) : aL L 5 i = L 5 i := if_pos h
theorem pL_0 {L : Mem} {i v : Int} (h : 0 ≤ i ∧ i < 49) : pL L 0 i v = up L 0 i v := if_pos h
theorem pL_1 {L : Mem} {i v : Int} (h : 0 ≤ i ∧ i < 49) : pL L 1 i v = up L 1 i v := if_pos h
theorem pL_2 {L : Mem} {i v : Int} (h : 0 ≤ i ∧ i < 49) : pL L 2 i v = up L 2 i v := if_pos h
theorem pL_3 {L : Mem} {i v : Int} (h : 0 ≤ i ∧ i < 49) : pL L 3 i v = up L 3 i v := if_pos h
theorem pL_4 {L : Mem} {i v : Int} (h : 0 ≤ i ∧ i < 16) : pL L 4 i v = up L 4 i v := if_pos h
theorem pL_5 {L : Mem} {i v : Int} (h : 0 ≤ i ∧ i < 16) : pL L 5 i v = up L 5 i v := if_pos h
theorem insF_0 {L : Mem} {t h i : Int} (ht : 0 ≤ t ∧ t < 49) (hh : 16 ≤ h ∧ h < 49) (o : Int) : insF L t h i 0 o = if o = t then h else L 0 o := by
  unfold insF
  rw [pL_0 ht, pL_1 ht, pL_2 ⟨by omega, by omega⟩]
  simp [up, insP]
theorem insF_1 {L : Mem} {t h i : Int} (ht : 0 ≤ t ∧ t < 49) (hh : 16 ≤ h ∧ h < 49) (o : Int) : insF L t h i 1 o = if o = t then i else if (0 ≤ o ∧ o < 49) ∧ L 0 o = h ∧ i ≤ L 1 o then L 1 o + 1 else L 1 o := by
  unfold insF
  rw [pL_0 ht, pL_1 ht, pL_2 ⟨by omega, by omega⟩]
  simp [up, insP, and_assoc]
theorem insF_2 {L : Mem} {t h i : Int} (ht : 0 ≤ t ∧ t < 49) (hh : 16 ≤ h ∧ h < 49) (o : Int) : insF L t h i 2 o = if o = h then L 2 h + 1 else L 2 o := by
  unfold insF
  rw [pL_0 ht, pL_1 ht, pL_2 ⟨by omega, by omega⟩, aL_2 ⟨by omega, by omega⟩]
  simp [up, insP]
theorem insF_k {L : Mem} {t h i : Int} {k : Nat} (hk : 3 ≤ k) (ht : 0 ≤ t ∧ t < 49) (hh : 16 ≤ h ∧ h < 49) (o : Int) : insF L t h i k o = L k o := by
  unfold insF
  rw [pL_0 ht, pL_1 ht, pL_2 ⟨by omega, by omega⟩]
  have h0 : k ≠ 0 := by omega
  have h1 : k ≠ 1 := by omega
  have h2 : k ≠ 2 := by omega
  simp [up, insP, h0, h1, h2]
theorem remF_0 {L : Mem} {t : Int} (ht : 0 ≤ t ∧ t < 49) (hh : 16 ≤ L 0 t ∧ L 0 t < 49) (o : Int) : remF L t 0 o = if o = t then -1 else L 0 o := by
  unfold remF remA
  rw [pL_0 ht, aL_0 ht, pL_2 ⟨by omega, by omega⟩]
  simp [up, remP]
theorem remF_1 {L : Mem} {t : Int} (ht : 0 ≤ t ∧ t < 49) (hh : 16 ≤ L 0 t ∧ L 0 t < 49) (o : Int) : remF L t 1 o = if o ≠ t ∧ (0 ≤ o ∧ o < 49) ∧ L 0 o = L 0 t ∧ L 1 t < L 1 o then L 1 o - 1 else L 1 o := by
  unfold remF remA
  rw [pL_0 ht, aL_0 ht, aL_1 ht, pL_2 ⟨by omega, by omega⟩]
  simp only [up, remP]
  by_cases h : o = t
  · subst h; simp
  · simp [h, and_assoc]
theorem remF_2 {L : Mem} {t : Int} (ht : 0 ≤ t ∧ t < 49) (hh : 16 ≤ L 0 t ∧ L 0 t < 49) (o : Int) : remF L t 2 o = if o = L 0 t then L 2 o - 1 else L 2 o := by
  unfold remF remA
  rw [pL_0 ht, aL_0 ht, pL_2 ⟨by omega, by omega⟩]
  simp only [up, remP]
  by_cases h : o = L 0 t
  · subst h; simp [aL_2 (L := L) (i := L 0 t) ⟨by omega, by omega⟩, aL, atF, llen, up]; omega
  · simp [h]
theorem remF_k {L : Mem} {t : Int} {k : Nat} (hk : 3 ≤ k) (ht : 0 ≤ t ∧ t < 49) (hh : 16 ≤ L 0 t ∧ L 0 t < 49) (o : Int) : remF L t k o = L k o := by
  unfold remF remA
  rw [pL_0 ht, aL_0 ht, pL_2 ⟨by omega, by omega⟩]
  have h0 : k ≠ 0 := by omega
  have h1 : k ≠ 1 := by omega
  have h2 : k ≠ 2 := by omega
  simp [up, remP, h0, h1, h2]
theorem Mb.ins {L : Mem} (W : Mb L) {t h i : Int} (ht : 0 ≤ t ∧ t < 49) (hh : 16 ≤ h ∧ h < 49) (h0 : L 0 t = -1) (hi : 0 ≤ i ∧ i ≤ L 2 h) : Mb (insF L t h i) := by
  first | with_reducible refine Mb.mk ?_ ?_ ?_ ?_ ?_ | constructor
  · intro u h1 h2; rw [insF_0 ht hh]; have := W.hol u h1 h2; grind
  · intro u h1 h2; rw [insF_2 ht hh]; have := W.nng u h1 h2; grind
  · intro u h1 h2 h3
    have a1 := W.rng u h1 h2
    rw [insF_0 ht hh] at h3
    rw [insF_0 ht hh, insF_1 ht hh, insF_2 ht hh]
    grind
  · intro u v h1 h2 h3 h4
    have a1 := W.inj u v h1 h2 h3 h4
    have b1 := W.rng u h1 h2
    have b2 := W.rng v h3 h4
    rw [insF_0 ht hh, insF_0 ht hh, insF_1 ht hh, insF_1 ht hh]
    grind
  · intro g j h1 h2 h3 h4
    rw [insF_2 ht hh] at h4
    have a1 := W.sur g j h1 h2 h3
    have a2 := W.sur g (j - 1) h1 h2
    by_cases hg : g = h
    · subst hg
      by_cases hj : j = i
      · exact ⟨t, ht.1, ht.2, by rw [insF_0 ht hh]; simp, by rw [insF_1 ht hh]; simp [hj]⟩
      · by_cases hj2 : j < i
        · obtain ⟨u, u1, u2, u3, u4⟩ := a1 (by omega)
          exact ⟨u, u1, u2, by rw [insF_0 ht hh]; grind, by rw [insF_1 ht hh]; grind⟩
        · obtain ⟨u, u1, u2, u3, u4⟩ := a2 (by omega) (by grind)
          exact ⟨u, u1, u2, by rw [insF_0 ht hh]; grind, by rw [insF_1 ht hh]; grind⟩
    · obtain ⟨u, u1, u2, u3, u4⟩ := a1 (by grind)
      exact ⟨u, u1, u2, by rw [insF_0 ht hh]; grind, by rw [insF_1 ht hh]; grind⟩
theorem Mb.rem {L : Mem} (W : Mb L) {t : Int} (ht : 0 ≤ t ∧ t < 49) (h0 : L 0 t ≠ -1) : Mb (remF L t) := by
  have hh : 16 ≤ L 0 t ∧ L 0 t < 49 := by have := W.hol t ht.1 ht.2; omega
  have rt := W.rng t ht.1 ht.2 h0
  first | with_reducible refine Mb.mk ?_ ?_ ?_ ?_ ?_ | constructor
  · intro u h1 h2; rw [remF_0 ht hh]; have := W.hol u h1 h2; grind
  · intro u h1 h2; rw [remF_2 ht hh]; have := W.nng u h1 h2; grind
  · intro u h1 h2 h3
    have a1 := W.rng u h1 h2
    have a2 := W.inj u t h1 h2 ht.1 ht.2
    rw [remF_0 ht hh] at h3
    rw [remF_0 ht hh, remF_1 ht hh, remF_2 ht hh]
    grind
  · intro u v h1 h2 h3 h4
    have a1 := W.inj u v h1 h2 h3 h4
    have b1 := W.rng u h1 h2
    have b2 := W.rng v h3 h4
    have c1 := W.inj u t h1 h2 ht.1 ht.2
    have c2 := W.inj v t h3 h4 ht.1 ht.2
    rw [remF_0 ht hh, remF_0 ht hh, remF_1 ht hh, remF_1 ht hh]
    grind
  · intro g j h1 h2 h3 h4
    rw [remF_2 ht hh] at h4
    have a1 := W.sur g j h1 h2 h3
    have a2 := W.sur g (j + 1) h1 h2
    by_cases hg : g = L 0 t
    · by_cases hj2 : j < L 1 t
      · obtain ⟨u, u1, u2, u3, u4⟩ := a1 (by grind)
        exact ⟨u, u1, u2, by rw [remF_0 ht hh]; grind, by rw [remF_1 ht hh]; grind⟩
      · obtain ⟨u, u1, u2, u3, u4⟩ := a2 (by omega) (by grind)
        exact ⟨u, u1, u2, by rw [remF_0 ht hh]; grind, by rw [remF_1 ht hh]; grind⟩
    · obtain ⟨u, u1, u2, u3, u4⟩ := a1 (by grind)
      exact ⟨u, u1, u2, by rw [remF_0 ht hh]; grind, by rw [remF_1 ht hh]; grind⟩
theorem replF_0 {L : Mem} {a c : Int} (ha : 0 ≤ a ∧ a < 49) (hc : 0 ≤ c ∧ c < 49) (o : Int) : replF L a c 0 o = if o = a then -1 else if o = c then L 0 a else L 0 o := by
  unfold replF
  rw [aL_0 ha, aL_1 ha, aL_3 ha, pL_0 hc, pL_1 hc, pL_3 hc, pL_0 ha]
  simp [up]
theorem replF_1 {L : Mem} {a c : Int} (ha : 0 ≤ a ∧ a < 49) (hc : 0 ≤ c ∧ c < 49) (o : Int) : replF L a c 1 o = if o = c then L 1 a else L 1 o := by
  unfold replF
  rw [aL_0 ha, aL_1 ha, aL_3 ha, pL_0 hc, pL_1 hc, pL_3 hc, pL_0 ha]
  simp [up]
theorem replF_3 {L : Mem} {a c : Int} (ha : 0 ≤ a ∧ a < 49) (hc : 0 ≤ c ∧ c < 49) (o : Int) : replF L a c 3 o = if o = c then L 3 a else L 3 o := by
  unfold replF
  rw [aL_0 ha, aL_1 ha, aL_3 ha, pL_0 hc, pL_1 hc, pL_3 hc, pL_0 ha]
  simp [up]
theorem replF_k {L : Mem} {a c : Int} {k : Nat} (hk : k = 2 ∨ 4 ≤ k) (ha : 0 ≤ a ∧ a < 49) (hc : 0 ≤ c ∧ c < 49) (o : Int) : replF L a c k o = L k o := by
  unfold replF
  rw [aL_0 ha, aL_1 ha, aL_3 ha, pL_0 hc, pL_1 hc, pL_3 hc, pL_0 ha]
  have h0 : k ≠ 0 := by omega
  have h1 : k ≠ 1 := by omega
  have h2 : k ≠ 3 := by omega
  simp [up, h0, h1, h2]
theorem Mb.repl {L : Mem} (W : Mb L) {a c : Int} (ha : 0 ≤ a ∧ a < 49) (hc : 0 ≤ c ∧ c < 49) (h0 : L 0 a ≠ -1) (h1 : L 0 c = -1) : Mb (replF L a c) := by
  have ra := W.rng a ha.1 ha.2 h0
  have oa := W.hol a ha.1 ha.2
  first | with_reducible refine Mb.mk ?_ ?_ ?_ ?_ ?_ | constructor
  · intro u h1 h2; rw [replF_0 ha hc]; have := W.hol u h1 h2; grind
  · intro u h1 h2; rw [replF_k (by omega) ha hc]; exact W.nng u h1 h2
  · intro u h1 h2 h3
    have a1 := W.rng u h1 h2
    rw [replF_0 ha hc] at h3
    rw [replF_0 ha hc, replF_1 ha hc, replF_k (by omega) ha hc]
    grind
  · intro u v h1 h2 h3 h4
    have a1 := W.inj u v h1 h2 h3 h4
    have c1 := W.inj u a h1 h2 ha.1 ha.2
    have c2 := W.inj v a h3 h4 ha.1 ha.2
    rw [replF_0 ha hc, replF_0 ha hc, replF_1 ha hc, replF_1 ha hc]
    grind
  · intro g j h1 h2 h3 h4
    rw [replF_k (by omega) ha hc] at h4
    obtain ⟨u, u1, u2, u3, u4⟩ := W.sur g j h1 h2 h3 h4
    by_cases hu : u = a
    · exact ⟨c, hc.1, hc.2, by rw [replF_0 ha hc]; grind, by rw [replF_1 ha hc]; grind⟩
    · exact ⟨u, u1, u2, by rw [replF_0 ha hc]; grind, by rw [replF_1 ha hc]; grind⟩
theorem mbrG_hit {L : Mem} {h i t : Int} : ∀ m : Nat, m ≤ 49 → (49 - m ≤ t ∧ t < 49) → L 0 t = h → L 1 t = i → (∀ u : Int, 0 ≤ u → u < 49 → L 0 u = h → L 1 u = i → u = t) → mbrG L h i m = t
  | 0, _, ht, _, _, _ => by omega
  | m + 1, hm, ht, h0, h1, hu => by
    unfold mbrG
    split
    · rename_i hx
      exact hu _ (by omega) (by omega) hx.1 hx.2
    · rename_i hx
      refine mbrG_hit m (by omega) ⟨?_, ht.2⟩ h0 h1 hu
      have : t ≠ 48 - (m : Int) := by intro e; subst e; exact hx ⟨h0, h1⟩
      omega
theorem mbrG_no {L : Mem} {h i : Int} : ∀ m : Nat, m ≤ 49 → (∀ u : Int, 0 ≤ u → u < 49 → L 0 u = h → L 1 u ≠ i) → mbrG L h i m = -1
  | 0, _, _ => rfl
  | m + 1, hm, hu => by
    unfold mbrG
    rw [if_neg (fun hx => hu _ (by omega) (by omega) hx.1 hx.2)]
    exact mbrG_no m (by omega) hu
theorem mbrF_hit {L : Mem} (W : Mb L) {h t : Int} (ht : 0 ≤ t ∧ t < 49) (h0 : L 0 t = h) (hh : h ≠ -1) : mbrF L h (L 1 t) = t :=
  mbrG_hit 49 (by omega) ⟨by omega, ht.2⟩ h0 rfl (fun u h1 h2 h3 h4 => W.inj u t h1 h2 ht.1 ht.2 (by rw [h3]; exact hh) (by rw [h3, h0]) h4)
theorem mbrF_no {L : Mem} {h i : Int} (hu : ∀ u : Int, 0 ≤ u → u < 49 → L 0 u = h → L 1 u ≠ i) : mbrF L h i = -1 := mbrG_no 49 (by omega) hu
/-- the member at a place -/
theorem mbrF_get {L : Mem} (W : Mb L) {h i : Int} (hh : 16 ≤ h ∧ h < 49) (hi : 0 ≤ i ∧ i < L 2 h) : (0 ≤ mbrF L h i ∧ mbrF L h i < 49) ∧ L 0 (mbrF L h i) = h ∧ L 1 (mbrF L h i) = i := by
  obtain ⟨t, t1, t2, t3, t4⟩ := W.sur h i hh.1 hh.2 hi.1 hi.2
  have := mbrF_hit W ⟨t1, t2⟩ t3 (by omega)
  rw [t4] at this
  rw [this]
  exact ⟨⟨t1, t2⟩, t3, t4⟩
theorem mbrF_out {L : Mem} (W : Mb L) {h i : Int} (hh : 16 ≤ h) (hi : i < 0 ∨ L 2 h ≤ i) : mbrF L h i = -1 := by
  refine mbrF_no fun u h1 h2 h3 h4 => ?_
  have := W.rng u h1 h2 (by omega)
  rw [h3] at this
  omega
theorem unuG_get {L : Mem} {e : Int} : ∀ m : Nat, (unuG L e m = -1 ∧ ∀ t : Int, e - m ≤ t → t < e → L 2 t ≠ 0) ∨ ((e - m ≤ unuG L e m ∧ unuG L e m < e) ∧ L 2 (unuG L e m) = 0)
  | 0 => Or.inl ⟨rfl, fun t h1 h2 => by omega⟩
  | m + 1 => by
    unfold unuG
    split
    · rename_i hx
      exact Or.inr ⟨⟨by omega, by omega⟩, hx⟩
    · rename_i hx
      rcases unuG_get (L := L) (e := e) m with ⟨h1, h2⟩ | ⟨h1, h2⟩
      · refine Or.inl ⟨h1, fun t h3 h4 => ?_⟩
        by_cases ht : t = e - (m + 1)
        · rw [ht]; exact hx
        · exact h2 t (by omega) h4
      · exact Or.inr ⟨⟨by omega, h1.2⟩, h2⟩
