/-! STATES: a layout and a tree, within their ranges -/
def EqL (L L' : Mem) : Prop := ∀ (k : Nat) (i : Int), k < 8 → 0 ≤ i → i < llen k → L' k i = L k i
def EqT (T T' : Mem) : Prop := ∀ (w : Nat) (i : Int), w ≤ 10 → 0 ≤ i → i < (if w ≤ 8 then 32 else 16) → T' w i = T w i
theorem EqL.r4 {L L' : Mem} (h : EqL L L') (k : Nat) (hk : k < 4) {i : Int} (hi : 0 ≤ i ∧ i < 49) : L' k i = L k i := by
  have : k = 0 ∨ k = 1 ∨ k = 2 ∨ k = 3 := by omega
  rcases this with rfl | rfl | rfl | rfl <;> exact h _ i (by omega) hi.1 hi.2
theorem EqL.r5 {L L' : Mem} (h : EqL L L') (k : Nat) (hk : k = 4 ∨ k = 5) {i : Int} (hi : 0 ≤ i ∧ i < 16) : L' k i = L k i := by
  rcases hk with rfl | rfl <;> exact h _ i (by omega) hi.1 hi.2
theorem EqL.r6 {L L' : Mem} (h : EqL L L') (k : Nat) (hk : k = 6 ∨ k = 7) {i : Int} (hi : 0 ≤ i ∧ i < 32) : L' k i = L k i := by
  rcases hk with rfl | rfl <;> exact h _ i (by omega) hi.1 hi.2
theorem EqT.n {T T' : Mem} (h : EqT T T') (w : Nat) (hw : w ≤ 8) {i : Int} (hi : 0 ≤ i ∧ i < 32) : T' w i = T w i := h w i (by omega) hi.1 (by rw [if_pos hw]; exact hi.2)
theorem EqT.p {T T' : Mem} (h : EqT T T') (w : Nat) (hw : w = 9 ∨ w = 10) {i : Int} (hi : 0 ≤ i ∧ i < 16) : T' w i = T w i := h w i (by omega) hi.1 (by rw [if_neg (by omega)]; exact hi.2)
theorem Mb.c {L L' : Mem} (W : Mb L) (h : EqL L L') : Mb L' := by
  have e0 := fun (t : Int) ht => h.r4 0 (by omega) (i := t) ht
  have e1 := fun (t : Int) ht => h.r4 1 (by omega) (i := t) ht
  have e2 := fun (t : Int) ht => h.r4 2 (by omega) (i := t) ht
  first | with_reducible refine BxI.mk ?_ ?_ ?_ ?_ ?_ ?_ | with_reducible refine WkI.mk ?_ ?_ ?_ ?_ ?_ ?_ | with_reducible refine PlE.mk ?_ ?_ ?_ ?_ ?_ | with_reducible refine Pl0.mk ?_ ?_ ?_ ?_ | with_reducible refine Tp.mk ?_ ?_ | with_reducible refine Vl.mk ?_ ?_ | with_reducible refine Lk.mk ?_ | with_reducible refine RfQ.mk ?_ ?_ ?_ ?_ | with_reducible refine ShQ.mk ?_ ?_ ?_ ?_ | with_reducible refine Que.mk ?_ ?_ ?_ ?_ ?_ ?_ ?_ ?_ | with_reducible refine QuI.mk ?_ ?_ ?_ ?_ ?_ ?_ | with_reducible refine Ord.mk ?_ ?_ ?_ ?_ ?_ ?_ ?_ ?_ ?_ ?_ | with_reducible refine LnI.mk ?_ ?_ ?_ ?_ ?_ ?_ ?_ ?_ ?_ ?_ ?_ ?_ ?_ ?_ ?_ ?_ ?_ | with_reducible refine Rl.mk ?_ ?_ ?_ ?_ ?_ ?_ ?_ ?_ ?_ ?_ ?_ ?_ ?_ | with_reducible refine Wf.mk ?_ ?_ ?_ ?_ ?_ ?_ ?_ ?_ ?_ ?_ ?_ | with_reducible refine Mb.mk ?_ ?_ ?_ ?_ ?_ | constructor
  · intro t h1 h2; rw [e0 t ⟨h1, h2⟩]; exact W.hol t h1 h2
  · intro t h1 h2; rw [e2 t ⟨by omega, h2⟩]; exact W.nng t h1 h2
  · intro t h1 h2 h3
    rw [e0 t ⟨h1, h2⟩] at h3
    have := W.hol t h1 h2
    rw [e0 t ⟨h1, h2⟩, e1 t ⟨h1, h2⟩, e2 _ ⟨by omega, by omega⟩]
    exact W.rng t h1 h2 h3
  · intro t v h1 h2 h3 h4 h5 h6 h7
    rw [e0 t ⟨h1, h2⟩] at h5 h6
    rw [e0 v ⟨h3, h4⟩] at h6
    rw [e1 t ⟨h1, h2⟩, e1 v ⟨h3, h4⟩] at h7
    exact W.inj t v h1 h2 h3 h4 h5 h6 h7
  · intro g i h1 h2 h3 h4
    rw [e2 g ⟨by omega, h2⟩] at h4
    obtain ⟨t, t1, t2, t3, t4⟩ := W.sur g i h1 h2 h3 h4
    exact ⟨t, t1, t2, by rw [e0 t ⟨t1, t2⟩]; exact t3, by rw [e1 t ⟨t1, t2⟩]; exact t4⟩
theorem Wf.c {L L' : Mem} {q : Int} (W : Wf L q) (h : EqL L L') : Wf L' q := by
  have e0 := fun (t : Int) ht => h.r4 0 (by omega) (i := t) ht
  first | with_reducible refine BxI.mk ?_ ?_ ?_ ?_ ?_ ?_ | with_reducible refine WkI.mk ?_ ?_ ?_ ?_ ?_ ?_ | with_reducible refine PlE.mk ?_ ?_ ?_ ?_ ?_ | with_reducible refine Pl0.mk ?_ ?_ ?_ ?_ | with_reducible refine Tp.mk ?_ ?_ | with_reducible refine Vl.mk ?_ ?_ | with_reducible refine Lk.mk ?_ | with_reducible refine RfQ.mk ?_ ?_ ?_ ?_ | with_reducible refine ShQ.mk ?_ ?_ ?_ ?_ | with_reducible refine Que.mk ?_ ?_ ?_ ?_ ?_ ?_ ?_ ?_ | with_reducible refine QuI.mk ?_ ?_ ?_ ?_ ?_ ?_ | with_reducible refine Ord.mk ?_ ?_ ?_ ?_ ?_ ?_ ?_ ?_ ?_ ?_ | with_reducible refine LnI.mk ?_ ?_ ?_ ?_ ?_ ?_ ?_ ?_ ?_ ?_ ?_ ?_ ?_ ?_ ?_ ?_ ?_ | with_reducible refine Rl.mk ?_ ?_ ?_ ?_ ?_ ?_ ?_ ?_ ?_ ?_ ?_ ?_ ?_ | with_reducible refine Wf.mk ?_ ?_ ?_ ?_ ?_ ?_ ?_ ?_ ?_ ?_ ?_ | with_reducible refine Mb.mk ?_ ?_ ?_ ?_ ?_ | constructor
  · exact W.mb.c h
  · intro t h1 h2; rw [e0 t ⟨h1, by omega⟩]; exact W.pan t h1 h2
  · intro t h1 h2; rw [e0 t ⟨by omega, by omega⟩]; exact W.grp t h1 h2
  · intro t h1 h2; rw [e0 t ⟨by omega, by omega⟩]; exact W.spl t h1 h2
  · intro t h1 h2 h3 h4
    rw [e0 t ⟨h1, h2⟩] at h3 h4
    have := W.mb.hol t h1 h2
    rw [e0 t ⟨h1, h2⟩, e0 _ ⟨by omega, by omega⟩]
    exact W.own t h1 h2 h3 h4
  · rw [e0 47 ⟨by omega, by omega⟩]; exact W.tw
  · rw [e0 48 ⟨by omega, by omega⟩]; exact W.ts
  · rw [h.r4 2 (by omega) ⟨by omega, by omega⟩]; exact W.win
  · intro t h1 h2; rw [h.r5 5 (Or.inr rfl) ⟨by omega, by omega⟩]; exact W.axs t h1 h2
  · have l := W.loo
    rcases l with l | ⟨l1, l2, l3⟩
    · exact Or.inl l
    · right; rw [e0 q ⟨by omega, by omega⟩]; exact ⟨l1, l2, l3⟩
  · obtain ⟨r, hr⟩ := W.rank
    refine ⟨r, fun t h1 h2 h3 h4 => ?_⟩
    rw [e0 t ⟨by omega, by omega⟩] at h3 h4 ⊢
    exact hr t h1 h2 h3 h4
theorem Us.c {L L' : Mem} {q g : Int} (h : EqL L L') : Us L' q g ↔ Us L q g := by
  unfold Us
  first | with_reducible refine BxI.mk ?_ ?_ ?_ ?_ ?_ ?_ | with_reducible refine WkI.mk ?_ ?_ ?_ ?_ ?_ ?_ | with_reducible refine PlE.mk ?_ ?_ ?_ ?_ ?_ | with_reducible refine Pl0.mk ?_ ?_ ?_ ?_ | with_reducible refine Tp.mk ?_ ?_ | with_reducible refine Vl.mk ?_ ?_ | with_reducible refine Lk.mk ?_ | with_reducible refine RfQ.mk ?_ ?_ ?_ ?_ | with_reducible refine ShQ.mk ?_ ?_ ?_ ?_ | with_reducible refine Que.mk ?_ ?_ ?_ ?_ ?_ ?_ ?_ ?_ | with_reducible refine QuI.mk ?_ ?_ ?_ ?_ ?_ ?_ | with_reducible refine Ord.mk ?_ ?_ ?_ ?_ ?_ ?_ ?_ ?_ ?_ ?_ | with_reducible refine LnI.mk ?_ ?_ ?_ ?_ ?_ ?_ ?_ ?_ ?_ ?_ ?_ ?_ ?_ ?_ ?_ ?_ ?_ | with_reducible refine Rl.mk ?_ ?_ ?_ ?_ ?_ ?_ ?_ ?_ ?_ ?_ ?_ ?_ ?_ | with_reducible refine Wf.mk ?_ ?_ ?_ ?_ ?_ ?_ ?_ ?_ ?_ ?_ ?_ | with_reducible refine Mb.mk ?_ ?_ ?_ ?_ ?_ | constructor
  · rintro ⟨h1, h2⟩; rw [h.r4 0 (by omega) ⟨by omega, by omega⟩] at h2; exact ⟨h1, h2⟩
  · rintro ⟨h1, h2⟩; rw [← h.r4 0 (by omega) ⟨by omega, by omega⟩] at h2; exact ⟨h1, h2⟩
theorem Rl.c {u : Int → Int} {L L' T T' : Mem} {q kq : Int} (R : Rl u L T q kq) (h : EqL L L') (hT : EqT T T') : Rl u L' T' q kq := by
  have us := fun g => Us.c (q := q) (g := g) h
  have e0 := fun (t : Int) ht => h.r4 0 (by omega) (i := t) ht
  first | with_reducible refine BxI.mk ?_ ?_ ?_ ?_ ?_ ?_ | with_reducible refine WkI.mk ?_ ?_ ?_ ?_ ?_ ?_ | with_reducible refine PlE.mk ?_ ?_ ?_ ?_ ?_ | with_reducible refine Pl0.mk ?_ ?_ ?_ ?_ | with_reducible refine Tp.mk ?_ ?_ | with_reducible refine Vl.mk ?_ ?_ | with_reducible refine Lk.mk ?_ | with_reducible refine RfQ.mk ?_ ?_ ?_ ?_ | with_reducible refine ShQ.mk ?_ ?_ ?_ ?_ | with_reducible refine Que.mk ?_ ?_ ?_ ?_ ?_ ?_ ?_ ?_ | with_reducible refine QuI.mk ?_ ?_ ?_ ?_ ?_ ?_ | with_reducible refine Ord.mk ?_ ?_ ?_ ?_ ?_ ?_ ?_ ?_ ?_ ?_ | with_reducible refine LnI.mk ?_ ?_ ?_ ?_ ?_ ?_ ?_ ?_ ?_ ?_ ?_ ?_ ?_ ?_ ?_ ?_ ?_ | with_reducible refine Rl.mk ?_ ?_ ?_ ?_ ?_ ?_ ?_ ?_ ?_ ?_ ?_ ?_ ?_ | with_reducible refine Wf.mk ?_ ?_ ?_ ?_ ?_ ?_ ?_ ?_ ?_ ?_ ?_ | with_reducible refine Mb.mk ?_ ?_ ?_ ?_ ?_ | constructor
  · exact R.wf.c h
  · exact R.kk
  · intro g hg; exact R.rng g ((us g).mp hg)
  · intro g k hg hk; exact R.inj g k ((us g).mp hg) ((us k).mp hk)
  · intro o h1 h2 h3
    rw [hT.n 0 (by omega) ⟨h1, h2⟩] at h3
    obtain ⟨g, g1, g2⟩ := R.sur o h1 h2 h3
    exact ⟨g, (us g).mpr g1, g2⟩
  · intro g hg
    have hg := (us g).mp hg
    have b := hg.1
    rw [hT.n 0 (by omega) (R.rng g hg), R.knd g hg]
    unfold kindL
    rw [e0 g ⟨by omega, by omega⟩]
    by_cases z : g < 32
    · rw [if_pos z, if_pos z]
    · rw [if_neg z, if_neg z, h.r5 5 (Or.inr rfl) ⟨by omega, by omega⟩]
  · intro g hg
    have hg := (us g).mp hg
    have b := hg.1
    rw [hT.n 1 (by omega) (R.rng g hg), R.par g hg, e0 g ⟨by omega, by omega⟩]
  · intro g hg hq
    have hg := (us g).mp hg
    have b := hg.1
    rw [hT.n 2 (by omega) (R.rng g hg), R.pos g hg hq, h.r4 1 (by omega) ⟨by omega, by omega⟩]
  · intro g hg
    have hg := (us g).mp hg
    have b := hg.1
    rw [hT.n 3 (by omega) (R.rng g hg), e0 g ⟨by omega, by omega⟩, h.r4 3 (by omega) ⟨by omega, by omega⟩]
    exact R.wt g hg
  · intro g hg h32
    have hg := (us g).mp hg
    have b := hg.1
    rw [hT.n 4 (by omega) (R.rng g hg), h.r5 4 (Or.inl rfl) ⟨by omega, by omega⟩]
    exact R.act g hg h32
  · intro g hg h48
    have hg := (us g).mp hg
    have b := hg.1
    rw [e0 g ⟨by omega, by omega⟩] at h48
    have g32 : g < 32 := by have := R.wf.spl g; omega
    rw [hT.n 5 (by omega) (R.rng g hg), hT.n 6 (by omega) (R.rng g hg), hT.n 7 (by omega) (R.rng g hg), hT.n 8 (by omega) (R.rng g hg), h.r6 6 (Or.inl rfl) ⟨by omega, by omega⟩, h.r6 6 (Or.inl rfl) ⟨by omega, by omega⟩, h.r6 7 (Or.inr rfl) ⟨by omega, by omega⟩, h.r6 7 (Or.inr rfl) ⟨by omega, by omega⟩]
    exact R.box g hg h48
  · intro p h1 h2
    rw [hT.p 9 (Or.inl rfl) ⟨h1, h2⟩, e0 p ⟨h1, by omega⟩]
    exact R.pan p h1 h2
  · intro p h1 h2 h3
    rw [e0 p ⟨h1, by omega⟩] at h3
    rw [hT.p 10 (Or.inr rfl) ⟨h1, h2⟩, h.r4 1 (by omega) ⟨h1, by omega⟩]
    exact R.pla p h1 h2 h3
theorem Fu.c {L L' : Mem} (F : Fu L) (h : EqL L L') : Fu L' := fun g h1 h2 => by
  rw [h.r4 0 (by omega) ⟨by omega, by omega⟩, h.r4 2 (by omega) ⟨by omega, by omega⟩]
  exact F g h1 h2
theorem Cl.c {L L' : Mem} {P : Int} (C : Cl L P) (h : EqL L L') (hP : 0 ≤ P) : Cl L' P := fun p h1 h2 => by
  rw [h.r4 0 (by omega) ⟨by omega, by omega⟩]
  exact C p h1 h2
theorem Vl.c {L L' : Mem} (V : Vl L) (h : EqL L L') : Vl L' := by
  first | with_reducible refine BxI.mk ?_ ?_ ?_ ?_ ?_ ?_ | with_reducible refine WkI.mk ?_ ?_ ?_ ?_ ?_ ?_ | with_reducible refine PlE.mk ?_ ?_ ?_ ?_ ?_ | with_reducible refine Pl0.mk ?_ ?_ ?_ ?_ | with_reducible refine Tp.mk ?_ ?_ | with_reducible refine Vl.mk ?_ ?_ | with_reducible refine Lk.mk ?_ | with_reducible refine RfQ.mk ?_ ?_ ?_ ?_ | with_reducible refine ShQ.mk ?_ ?_ ?_ ?_ | with_reducible refine Que.mk ?_ ?_ ?_ ?_ ?_ ?_ ?_ ?_ | with_reducible refine QuI.mk ?_ ?_ ?_ ?_ ?_ ?_ | with_reducible refine Ord.mk ?_ ?_ ?_ ?_ ?_ ?_ ?_ ?_ ?_ ?_ | with_reducible refine LnI.mk ?_ ?_ ?_ ?_ ?_ ?_ ?_ ?_ ?_ ?_ ?_ ?_ ?_ ?_ ?_ ?_ ?_ | with_reducible refine Rl.mk ?_ ?_ ?_ ?_ ?_ ?_ ?_ ?_ ?_ ?_ ?_ ?_ ?_ | with_reducible refine Wf.mk ?_ ?_ ?_ ?_ ?_ ?_ ?_ ?_ ?_ ?_ ?_ | with_reducible refine Mb.mk ?_ ?_ ?_ ?_ ?_ | constructor
  · intro t h1 h2 h3
    rw [h.r4 0 (by omega) ⟨h1, h2⟩] at h3
    rw [h.r4 3 (by omega) ⟨h1, h2⟩]
    exact V.wts t h1 h2 h3
  · intro g h1 h2 h3 ax ha
    rw [h.r4 0 (by omega) ⟨by omega, by omega⟩] at h3
    rw [h.r6 6 (Or.inl rfl) ⟨by omega, by omega⟩, h.r6 7 (Or.inr rfl) ⟨by omega, by omega⟩]
    exact V.flo g h1 h2 h3 ax ha
/-- a layout of the class and a tree of the reference: the same, and sound -/
def LR (N : Int) (L T : Mem) (P : Int) : Prop :=
  (∃ u : Int → Int, Rl u L T (-1) 1) ∧
  (Fu L) ∧
  (Cl L P) ∧
  (Vl L) ∧
  (TB N T)
theorem LR.rl {N : Int} {L T : Mem} {P : Int} (h9 : LR N L T P) : ∃ u : Int → Int, Rl u L T (-1) 1 := h9.1
theorem LR.fu {N : Int} {L T : Mem} {P : Int} (h9 : LR N L T P) : Fu L := h9.2.1
theorem LR.cl {N : Int} {L T : Mem} {P : Int} (h9 : LR N L T P) : Cl L P := h9.2.2.1
theorem LR.vl {N : Int} {L T : Mem} {P : Int} (h9 : LR N L T P) : Vl L := h9.2.2.2.1
theorem LR.tb {N : Int} {L T : Mem} {P : Int} (h9 : LR N L T P) : TB N T := h9.2.2.2.2
theorem LR.mk {N : Int} {L T : Mem} {P : Int} (h_rl : ∃ u : Int → Int, Rl u L T (-1) 1) (h_fu : Fu L) (h_cl : Cl L P) (h_vl : Vl L) (h_tb : TB N T) : LR N L T P := ⟨h_rl, h_fu, h_cl, h_vl, h_tb⟩
theorem TB.c {N : Int} {T T' : Mem} (h : TB N T) (hT : EqT T T') (h9 : ∀ w i, 10 < w → Tin w i → -N ≤ T' w i ∧ T' w i ≤ N) : TB N T' := by
  refine ⟨fun w i hi => ?_, fun i hi => ?_, fun i hi => ?_⟩
  · by_cases z : w ≤ 10
    · rw [hT w i z hi.1 hi.2]; exact h.1 w i hi
    · exact h9 w i (by omega) hi
  · rw [hT 1 i (by omega) hi.1 hi.2]; exact h.2.1 i hi
  · rw [hT 9 i (by omega) hi.1 hi.2]; exact h.2.2 i hi
/-- the tree in a row of numbers, from a place on -/
def trS (s : Int → Int) (o : Int) : Mem := fun w i => if w ≤ 8 then s (o + 9 * i + w) else if w = 9 then s (o + 288 + 2 * i) else s (o + 288 + 2 * i + 1)
theorem trS_O (mu : Mem) (r : Nat) (o : Int) : trO mu r o = trS (mu (r + 1)) o := rfl
theorem trS_T (mu : Mem) (r : Nat) : trT mu r = trS (mu (r + 1)) 35 := by
  funext w i
  unfold trT trS
  by_cases h : w ≤ 8
  · rw [if_pos h, if_pos h]
  · rw [if_neg h, if_neg h]
    by_cases h9 : w = 9
    · rw [if_pos h9, if_pos h9]; congr 1
    · rw [if_neg h9, if_neg h9]; congr 1
theorem trS_c {s s' : Int → Int} {o o' : Int} (h : ∀ i : Int, 0 ≤ i → i < 320 → s' (o' + i) = s (o + i)) : EqT (trS s o) (trS s' o') := by
  intro w i hw h1 h2
  unfold trS
  by_cases z : w ≤ 8
  · rw [if_pos z] at h2
    rw [if_pos z, if_pos z]
    have := h (9 * i + w) (by omega) (by omega)
    rw [show o' + 9 * i + (w : Int) = o' + (9 * i + w) by omega, show o + 9 * i + (w : Int) = o + (9 * i + w) by omega, this]
  · rw [if_neg z] at h2
    rw [if_neg z, if_neg z]
    by_cases z9 : w = 9
    · rw [if_pos z9, if_pos z9]
      have := h (288 + 2 * i) (by omega) (by omega)
      rw [show o' + 288 + 2 * i = o' + (288 + 2 * i) by omega, show o + 288 + 2 * i = o + (288 + 2 * i) by omega, this]
    · rw [if_neg z9, if_neg z9]
      have := h (288 + 2 * i + 1) (by omega) (by omega)
      rw [show o' + 288 + 2 * i + 1 = o' + (288 + 2 * i + 1) by omega, show o + 288 + 2 * i + 1 = o + (288 + 2 * i + 1) by omega, this]
theorem trS_hi (s : Int → Int) (o : Int) {w : Nat} (hw : 10 < w) (i : Int) : trS s o w i = trS s o 10 i := by
  unfold trS
  rw [if_neg (by omega), if_neg (by omega), if_neg (by omega), if_neg (by omega)]
theorem TB.s {N : Int} {s s' : Int → Int} {o o' : Int} (h : TB N (trS s o)) (he : EqT (trS s o) (trS s' o')) : TB N (trS s' o') := by
  refine h.c he fun w i hw hi => ?_
  rw [trS_hi s' o' hw i]
  have hi' : 0 ≤ i ∧ i < 16 := by unfold Tin at hi; rw [if_neg (by omega)] at hi; exact hi
  rw [he 10 i (by omega) hi'.1 (by rw [if_neg (by omega)]; exact hi'.2)]
  exact h.1 10 i ⟨hi'.1, by rw [if_neg (by omega)]; exact hi'.2⟩
theorem LR.c {N : Int} {L L' : Mem} {s s' : Int → Int} {o o' : Int} {P : Int} (A : LR N L (trS s o) P) (h : EqL L L') (hs : ∀ i : Int, 0 ≤ i → i < 320 → s' (o' + i) = s (o + i)) (hP : 0 ≤ P) : LR N L' (trS s' o') P := by
  have eT := trS_c hs
  obtain ⟨⟨u, R⟩, F, C, V, B⟩ := A
  first | with_reducible refine LR.mk ?_ ?_ ?_ ?_ ?_ | with_reducible refine BxI.mk ?_ ?_ ?_ ?_ ?_ ?_ | with_reducible refine WkI.mk ?_ ?_ ?_ ?_ ?_ ?_ | with_reducible refine PlE.mk ?_ ?_ ?_ ?_ ?_ | with_reducible refine Pl0.mk ?_ ?_ ?_ ?_ | with_reducible refine Tp.mk ?_ ?_ | with_reducible refine Vl.mk ?_ ?_ | with_reducible refine Lk.mk ?_ | with_reducible refine RfQ.mk ?_ ?_ ?_ ?_ | with_reducible refine ShQ.mk ?_ ?_ ?_ ?_ | with_reducible refine Que.mk ?_ ?_ ?_ ?_ ?_ ?_ ?_ ?_ | with_reducible refine QuI.mk ?_ ?_ ?_ ?_ ?_ ?_ | with_reducible refine Ord.mk ?_ ?_ ?_ ?_ ?_ ?_ ?_ ?_ ?_ ?_ | with_reducible refine LnI.mk ?_ ?_ ?_ ?_ ?_ ?_ ?_ ?_ ?_ ?_ ?_ ?_ ?_ ?_ ?_ ?_ ?_ | with_reducible refine Rl.mk ?_ ?_ ?_ ?_ ?_ ?_ ?_ ?_ ?_ ?_ ?_ ?_ ?_ | with_reducible refine Wf.mk ?_ ?_ ?_ ?_ ?_ ?_ ?_ ?_ ?_ ?_ ?_ | with_reducible refine Mb.mk ?_ ?_ ?_ ?_ ?_ | constructor
  · exact ⟨u, R.c h eT⟩
  · exact F.c h
  · exact C.c h hP
  · exact V.c h
  · exact B.s eT
/-- what undo brings back: a state of the class at c, a row of the reference -/
def RS (N : Int) (mu : Mem) (c : Nat) (s : Int → Int) : Prop :=
  (mu c 0 = s 0 ∧ 20 ≤ mu c 0 ∧ mu c 0 ≤ 400) ∧
  (mu c 1 = s 1 ∧ 20 ≤ mu c 1 ∧ mu c 1 ≤ 400) ∧
  (mu c 2 = s 2 ∧ 0 ≤ mu c 2 ∧ mu c 2 ≤ 16) ∧
  (∀ i : Int, 0 ≤ i → i < 32 → mu (c + 1) i = s (3 + i) ∧ 0 ≤ mu (c + 1) i ∧ mu (c + 1) i ≤ 60) ∧
  (∀ p ax : Int, 0 ≤ p → p < mu c 2 → (ax = 0 ∨ ax = 1) → 1 ≤ mu (c + 1) (2 * p + ax)) ∧
  (LR N (lay mu (c + 2)) (trS s 35) (mu c 2)) ∧
  (∀ j : Nat, j < 4 → mu (c + 12) j = s (355 + 321 * j) ∧ (mu (c + 12) j = 0 ∨ mu (c + 12) j = 1)) ∧
  (∀ j : Nat, j < 4 → mu (c + 12) j = 1 → LR N (lay mu (c + 13 + 9 * j)) (trS s (355 + 321 * j + 1)) (mu c 2))
theorem RS.wid {N : Int} {mu : Mem} {c : Nat} {s : Int → Int} (h9 : RS N mu c s) : mu c 0 = s 0 ∧ 20 ≤ mu c 0 ∧ mu c 0 ≤ 400 := h9.1
theorem RS.hig {N : Int} {mu : Mem} {c : Nat} {s : Int → Int} (h9 : RS N mu c s) : mu c 1 = s 1 ∧ 20 ≤ mu c 1 ∧ mu c 1 ≤ 400 := h9.2.1
theorem RS.pan {N : Int} {mu : Mem} {c : Nat} {s : Int → Int} (h9 : RS N mu c s) : mu c 2 = s 2 ∧ 0 ≤ mu c 2 ∧ mu c 2 ≤ 16 := h9.2.2.1
theorem RS.lst {N : Int} {mu : Mem} {c : Nat} {s : Int → Int} (h9 : RS N mu c s) : ∀ i : Int, 0 ≤ i → i < 32 → mu (c + 1) i = s (3 + i) ∧ 0 ≤ mu (c + 1) i ∧ mu (c + 1) i ≤ 60 := h9.2.2.2.1
theorem RS.low {N : Int} {mu : Mem} {c : Nat} {s : Int → Int} (h9 : RS N mu c s) : ∀ p ax : Int, 0 ≤ p → p < mu c 2 → (ax = 0 ∨ ax = 1) → 1 ≤ mu (c + 1) (2 * p + ax) := h9.2.2.2.2.1
theorem RS.lyt {N : Int} {mu : Mem} {c : Nat} {s : Int → Int} (h9 : RS N mu c s) : LR N (lay mu (c + 2)) (trS s 35) (mu c 2) := h9.2.2.2.2.2.1
theorem RS.has {N : Int} {mu : Mem} {c : Nat} {s : Int → Int} (h9 : RS N mu c s) : ∀ j : Nat, j < 4 → mu (c + 12) j = s (355 + 321 * j) ∧ (mu (c + 12) j = 0 ∨ mu (c + 12) j = 1) := h9.2.2.2.2.2.2.1
theorem RS.kep {N : Int} {mu : Mem} {c : Nat} {s : Int → Int} (h9 : RS N mu c s) : ∀ j : Nat, j < 4 → mu (c + 12) j = 1 → LR N (lay mu (c + 13 + 9 * j)) (trS s (355 + 321 * j + 1)) (mu c 2) := h9.2.2.2.2.2.2.2
theorem RS.mk {N : Int} {mu : Mem} {c : Nat} {s : Int → Int} (h_wid : mu c 0 = s 0 ∧ 20 ≤ mu c 0 ∧ mu c 0 ≤ 400) (h_hig : mu c 1 = s 1 ∧ 20 ≤ mu c 1 ∧ mu c 1 ≤ 400) (h_pan : mu c 2 = s 2 ∧ 0 ≤ mu c 2 ∧ mu c 2 ≤ 16) (h_lst : ∀ i : Int, 0 ≤ i → i < 32 → mu (c + 1) i = s (3 + i) ∧ 0 ≤ mu (c + 1) i ∧ mu (c + 1) i ≤ 60) (h_low : ∀ p ax : Int, 0 ≤ p → p < mu c 2 → (ax = 0 ∨ ax = 1) → 1 ≤ mu (c + 1) (2 * p + ax)) (h_lyt : LR N (lay mu (c + 2)) (trS s 35) (mu c 2)) (h_has : ∀ j : Nat, j < 4 → mu (c + 12) j = s (355 + 321 * j) ∧ (mu (c + 12) j = 0 ∨ mu (c + 12) j = 1)) (h_kep : ∀ j : Nat, j < 4 → mu (c + 12) j = 1 → LR N (lay mu (c + 13 + 9 * j)) (trS s (355 + 321 * j + 1)) (mu c 2)) : RS N mu c s := ⟨h_wid, h_hig, h_pan, h_lst, h_low, h_lyt, h_has, h_kep⟩
