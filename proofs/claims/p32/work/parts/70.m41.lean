/-! WEIGHTS AND FLOATS ARE KEPT -/
theorem pL_row {L : Mem} {k k' : Nat} {i v : Int} (h : k' ≠ k) : pL L k i v k' = L k' := by
  unfold pL puF
  split
  · funext j; exact up_a _ _ _ _ h
  · rfl
theorem pL_at {L : Mem} {k : Nat} {i v : Int} (o : Int) : pL L k i v k o = if (0 ≤ i ∧ i < llen k) ∧ o = i then v else L k o := by
  unfold pL puF
  by_cases z : 0 ≤ i ∧ i < (llen k : Int)
  · rw [if_pos z, up_e]
    by_cases y : o = i
    · rw [if_pos ⟨rfl, y⟩, if_pos ⟨z, y⟩]
    · rw [if_neg (by omega), if_neg (by omega)]
  · rw [if_neg z, if_neg (by omega)]
theorem insP_row {L : Mem} {h i j : Int} {k : Nat} (hk : k ≠ 1) : insP L h i j k = L k := by
  funext o; exact if_neg (by omega)
theorem remP_row {L : Mem} {h i j : Int} {k : Nat} (hk : k ≠ 1) : remP L h i j k = L k := by
  funext o; exact if_neg (by omega)
theorem insF_row {L : Mem} {t h i : Int} {k : Nat} (h0 : k ≠ 0) (h1 : k ≠ 1) (h2 : k ≠ 2) : insF L t h i k = L k := by
  unfold insF; rw [pL_row h2, pL_row h1, pL_row h0, insP_row h1]
theorem insF_r0 {L : Mem} {t h i : Int} (o : Int) : insF L t h i 0 o = if (0 ≤ t ∧ t < 49) ∧ o = t then h else L 0 o := by
  unfold insF; rw [pL_row (by omega), pL_row (by omega), pL_at, insP_row (by omega)]; rfl
theorem remF_row {L : Mem} {t : Int} {k : Nat} (h0 : k ≠ 0) (h1 : k ≠ 1) (h2 : k ≠ 2) : remF L t k = L k := by
  unfold remF remA; rw [remP_row h1, pL_row h2, pL_row h0]
theorem remF_r0 {L : Mem} {t : Int} (o : Int) : remF L t 0 o = if (0 ≤ t ∧ t < 49) ∧ o = t then -1 else L 0 o := by
  unfold remF remA; rw [remP_row (by omega), pL_row (by omega), pL_at]; rfl
theorem replF_row {L : Mem} {a c : Int} {k : Nat} (h0 : k ≠ 0) (h1 : k ≠ 1) (h3 : k ≠ 3) : replF L a c k = L k := by
  unfold replF; rw [pL_row h0, pL_row h3, pL_row h1, pL_row h0]
theorem replF_r0 {L : Mem} {a c : Int} (o : Int) : replF L a c 0 o = if (0 ≤ a ∧ a < 49) ∧ o = a then -1 else if (0 ≤ c ∧ c < 49) ∧ o = c then aL L 0 a else L 0 o := by
  unfold replF; rw [pL_at, pL_row (by omega), pL_row (by omega), pL_at]; rfl
theorem replF_r3 {L : Mem} {a c : Int} (o : Int) : replF L a c 3 o = if (0 ≤ c ∧ c < 49) ∧ o = c then aL L 3 a else L 3 o := by
  unfold replF; rw [pL_row (by omega), pL_at, pL_row (by omega), pL_row (by omega)]; rfl
theorem grpF_row {L : Mem} {p : Int} {k : Nat} (h0 : k ≠ 0) (h1 : k ≠ 1) (h2 : k ≠ 2) (h4 : k ≠ 4) : grpF L p k = L k := by
  unfold grpF; rw [pL_row h4, insF_row h0 h1 h2]
theorem grpF_r0 {L : Mem} {p : Int} (o : Int) : grpF L p 0 o = if (0 ≤ p ∧ p < 49) ∧ o = p then unuF L 16 32 else L 0 o := by
  unfold grpF; rw [pL_row (by omega), insF_r0]
/-- the boxes of floats stay -/
def K67 (L L' : Mem) : Prop := ∀ k : Nat, k = 6 ∨ k = 7 → L' k = L k
theorem K67.ins {L : Mem} (t h i : Int) : K67 L (insF L t h i) := fun k hk => insF_row (by omega) (by omega) (by omega)
theorem K67.rem {L : Mem} (t : Int) : K67 L (remF L t) := fun k hk => remF_row (by omega) (by omega) (by omega)
theorem K67.repl {L : Mem} (a c : Int) : K67 L (replF L a c) := fun k hk => replF_row (by omega) (by omega) (by omega)
theorem K67.grp {L : Mem} (p : Int) : K67 L (grpF L p) := fun k hk => grpF_row (by omega) (by omega) (by omega) (by omega)
theorem K67.p {L : Mem} {j : Nat} (i v : Int) (hj : j < 6) : K67 L (pL L j i v) := fun k hk => pL_row (by omega)
theorem K67.tr {L M Q : Mem} (a : K67 L M) (b : K67 M Q) : K67 L Q := fun k hk => by rw [b k hk, a k hk]
theorem K67.wrapA {L : Mem} (s o n d : Int) : K67 L (wrapA L s o n d) := by
  unfold Jvm.Pilot.CDockTreeLaw_law_r5321_3fbd41.wrapA
  exact (((K67.p _ _ (by omega)).tr (K67.repl _ _)).tr (K67.ins _ _ _)).tr (K67.ins _ _ _)
theorem K67.wrap {L : Mem} (o n d : Int) : K67 L (wrapF L o n d) := by
  unfold wrapF
  exact ((K67.wrapA _ _ _ _).tr (K67.p _ _ (by omega))).tr (K67.p _ _ (by omega))
theorem K67.pb {L : Mem} (g n d : Int) : K67 L (pbF L g n d) := by
  unfold pbF
  split
  · exact (K67.ins _ _ _).tr (K67.p _ _ (by omega))
  · exact K67.wrap _ _ _
theorem K67.tog {L : Mem} (g : Int) : K67 L (togF L g) := by
  unfold togF togA
  split
  · exact ((K67.rem _).tr (K67.rem _)).tr (K67.repl _ _)
  · exact K67.rem _
theorem K67.take {L : Mem} (p : Int) : K67 L (tkF L p) := by
  unfold tkF
  split
  · exact fun _ _ => rfl
  · split
    · exact (K67.rem _).tr (K67.tog _)
    · split
      · exact (K67.rem _).tr (K67.p _ _ (by omega))
      · exact K67.rem _
theorem K67.dock {L : Mem} (p t s : Int) : K67 L (dkF L p t s) := by
  unfold dkF
  split
  · exact ((K67.take p).tr (K67.ins _ _ _)).tr (K67.p _ _ (by omega))
  · exact ((K67.take p).tr (K67.grp _)).tr (K67.pb _ _ _)
theorem K67.edge {L : Mem} (p s : Int) : K67 L (dwF L p s) := by
  unfold dwF
  have a : K67 L (grpF (tkF L p) p) := (K67.take p).tr (K67.grp _)
  show K67 L (if _ then _ else _)
  split
  · exact a.tr (K67.ins _ _ _)
  · split
    · exact a.tr (K67.pb _ _ _)
    · exact a.tr (K67.wrap _ _ _)
theorem K67.raise {L : Mem} (g : Int) : K67 L (raF L g) := by unfold raF; exact (K67.rem _).tr (K67.ins _ _ _)
theorem K67.move {L : Mem} (p i : Int) : K67 L (mvF L p i) := by unfold mvF; exact (K67.rem _).tr (K67.ins _ _ _)
/-- weights of what stands in a split -/
def Vw (L : Mem) (E : Int → Prop) : Prop := ∀ t : Int, 0 ≤ t → t < 49 → ¬ E t → isZ (L 0 t) → 1 ≤ L 3 t ∧ L 3 t ≤ 1000000
theorem Vw.p {L : Mem} {E : Int → Prop} (A : Vw L E) {k : Nat} (i v : Int) (h0 : k ≠ 0) (h3 : k ≠ 3) : Vw (pL L k i v) E := fun t h1 h2 h z => by
  rw [pL_row (Ne.symm h0)] at z
  rw [pL_row (Ne.symm h3)]; exact A t h1 h2 h z
theorem Vw.p3 {L : Mem} {E F : Int → Prop} (A : Vw L E) {i v : Int} (hv : 1 ≤ v ∧ v ≤ 1000000) (hF : ∀ t : Int, 0 ≤ t → t < 49 → ¬ F t → t = i ∨ ¬ E t) : Vw (pL L 3 i v) F := fun t h1 h2 h z => by
  rw [pL_row (by omega)] at z
  rw [pL_at]
  by_cases y : t = i
  · rw [if_pos ⟨by rw [← y]; exact ⟨h1, h2⟩, y⟩]; exact hv
  · rw [if_neg (by omega)]
    rcases hF t h1 h2 h with e | e
    · exact absurd e y
    · exact A t h1 h2 e z
theorem Vw.ins {L : Mem} {E F : Int → Prop} (A : Vw L E) {t h i : Int} (hF : ∀ x, ¬ F x → ¬ E x ∧ (x = t → ¬ isZ h)) : Vw (insF L t h i) F := fun x h1 h2 hx z => by
  obtain ⟨a, b⟩ := hF x hx
  rw [insF_r0] at z
  rw [insF_row (by omega) (by omega) (by omega)]
  by_cases y : (0 ≤ t ∧ t < 49) ∧ x = t
  · rw [if_pos y] at z; exact absurd z (b y.2)
  · rw [if_neg y] at z; exact A x h1 h2 a z
theorem Vw.rem {L : Mem} {E : Int → Prop} (A : Vw L E) (t : Int) : Vw (remF L t) E := fun x h1 h2 hx z => by
  rw [remF_r0] at z
  rw [remF_row (by omega) (by omega) (by omega)]
  split at z
  · unfold isZ at z; omega
  · exact A x h1 h2 hx z
theorem Vw.repl {L : Mem} (A : Vw L (fun _ => False)) (a c : Int) : Vw (replF L a c) (fun _ => False) := fun x h1 h2 hx z => by
  rw [replF_r0] at z
  rw [replF_r3]
  split at z
  · unfold isZ at z; omega
  · split at z
    · rename_i y
      rw [if_pos y]
      have ha : 0 ≤ a ∧ a < 49 := by
        by_cases h : 0 ≤ a ∧ a < 49
        · exact h
        · have : aL L 0 a = -1 := if_neg h
          rw [this] at z; unfold isZ at z; omega
      rw [aL_0 ha] at z
      rw [aL_3 ha]
      exact A a ha.1 ha.2 (fun h => h) z
    · rename_i y
      rw [if_neg y]
      exact A x h1 h2 hx z
theorem Vw.wrap {L : Mem} (A : Vw L (fun _ => False)) (o n d : Int) : Vw (wrapF L o n d) (fun _ => False) := by
  unfold wrapF wrapA
  have a1 := (A.p (unuF L 32 47 - 32) (axF d) (k := 5) (by omega) (by omega)).repl o (unuF L 32 47)
  have a2 := a1.ins (F := fun x => x = o) (t := o) (h := unuF L 32 47) (i := 0) fun x hx => ⟨fun h => h, fun e => absurd e hx⟩
  have a3 := a2.ins (F := fun x => x = o ∨ x = n) (t := n) (h := unuF L 32 47) (i := bhF d) fun x hx => ⟨fun h => hx (Or.inl h), fun e => absurd (Or.inr e) hx⟩
  have a4 := a3.p3 (F := fun x => x = n ∧ x ≠ o) (i := o) (v := 1) (by omega) fun t _ _ h => by
    by_cases y : t = o
    · exact Or.inl y
    · exact Or.inr fun e => by rcases e with e | e; exact y e; exact h ⟨e, y⟩
  exact a4.p3 (F := fun _ => False) (i := n) (v := 1) (by omega) fun t _ _ _ => by
    by_cases y : t = n
    · exact Or.inl y
    · exact Or.inr fun e => y e.1
theorem Vw.pb {L : Mem} (A : Vw L (fun _ => False)) (g n d : Int) : Vw (pbF L g n d) (fun _ => False) := by
  unfold pbF
  split
  · rename_i z
    have hn : 0 ≤ n ∧ n < 49 := by
      by_cases h : 0 ≤ n ∧ n < 49
      · exact h
      · have : aL L 0 n = -1 := if_neg h
        omega
    have := A n hn.1 hn.2 (fun h => h) (by rw [aL_0 hn] at z; exact z.1)
    refine (A.ins (F := fun x => x = g) fun x hx => ⟨fun h => h, fun e => absurd e hx⟩).p3 (by rw [aL_3 hn]; exact this) fun t _ _ _ => ?_
    by_cases y : t = g
    · exact Or.inl y
    · exact Or.inr y
  · exact A.wrap _ _ _
theorem Vw.grp {L : Mem} (A : Vw L (fun _ => False)) (p : Int) : Vw (grpF L p) (fun _ => False) := by
  unfold grpF
  refine (A.ins (F := fun _ => False) fun x hx => ⟨fun h => h, fun _ z => ?_⟩).p _ _ (by omega) (by omega)
  have := unuF_rng L (a := 16) (e := 32) (by omega)
  unfold isZ at z; omega
theorem Vw.take {L : Mem} (A : Vw L (fun _ => False)) (p : Int) : Vw (tkF L p) (fun _ => False) := by
  unfold tkF
  split
  · exact A
  · split
    · unfold togF togA
      split
      · exact (((A.rem _).rem _).rem _).repl _ _
      · exact (A.rem _).rem _
    · split
      · exact (A.rem _).p _ _ (by omega) (by omega)
      · exact A.rem _
theorem Vw.edge {L : Mem} (A : Vw L (fun _ => False)) (p s : Int) : Vw (dwF L p s) (fun _ => False) := by
  unfold dwF
  have a := (A.take p).grp p
  show Vw (if _ then _ else _) _
  split
  · exact a.ins fun x hx => ⟨fun h => h, fun _ z => by unfold isZ at z; omega⟩
  · split
    · exact a.pb _ _ _
    · exact a.wrap _ _ _
theorem Vw.dock {L : Mem} (A : Vw L (fun _ => False)) (p t s : Int) (h : s = 4 → ¬ isZ (aL (tkF L p) 0 t)) : Vw (dkF L p t s) (fun _ => False) := by
  unfold dkF
  have a := A.take p
  split
  · rename_i z
    exact (a.ins fun x hx => ⟨fun h => h, fun _ => h z⟩).p _ _ (by omega) (by omega)
  · exact (a.grp p).pb _ _ _
/-- no new float -/
def F48 (L L' : Mem) : Prop := ∀ x : Int, 16 ≤ x → x < 32 → L' 0 x = 48 → L 0 x = 48
theorem F48.tr {L M Q : Mem} (a : F48 L M) (b : F48 M Q) : F48 L Q := fun x h1 h2 h => a x h1 h2 (b x h1 h2 h)
theorem F48.p {L : Mem} {k : Nat} (i v : Int) (h0 : k ≠ 0) : F48 L (pL L k i v) := fun x h1 h2 h => by rw [pL_row (Ne.symm h0)] at h; exact h
theorem F48.ins {L : Mem} {t h i : Int} (hh : h ≠ 48 ∨ t < 16 ∨ 32 ≤ t) : F48 L (insF L t h i) := fun x h1 h2 e => by
  rw [insF_r0] at e
  split at e
  · omega
  · exact e
theorem F48.repl {L : Mem} {a c : Int} (hc : c < 16 ∨ 32 ≤ c) : F48 L (replF L a c) := fun x h1 h2 e => by
  rw [replF_r0] at e
  split at e
  · omega
  · split at e
    · omega
    · exact e
theorem F48.wrap {L : Mem} (o n d : Int) : F48 L (wrapF L o n d) := by
  unfold wrapF wrapA
  have := unuF_rng L (a := 32) (e := 47) (by omega)
  exact (((((F48.p _ _ (by omega)).tr (F48.repl (by omega))).tr (F48.ins (Or.inl (by omega)))).tr (F48.ins (Or.inl (by omega)))).tr (F48.p _ _ (by omega))).tr (F48.p _ _ (by omega))
theorem F48.pb {L : Mem} (g n d : Int) : F48 L (pbF L g n d) := by
  unfold pbF
  split
  · exact (F48.ins (Or.inl (by omega))).tr (F48.p _ _ (by omega))
  · exact F48.wrap _ _ _
theorem F48.grp {L : Mem} {p : Int} (hp : p < 16) : F48 L (grpF L p) := by
  unfold grpF; exact (F48.ins (Or.inr (Or.inl hp))).tr (F48.p _ _ (by omega))
theorem F48.dock {L : Mem} {p : Int} (t s : Int) (hp : p < 16) : F48 (tkF L p) (dkF L p t s) := by
  unfold dkF
  split
  · exact (F48.ins (Or.inr (Or.inl hp))).tr (F48.p _ _ (by omega))
  · exact (F48.grp hp).tr (F48.pb _ _ _)
theorem F48.edge {L : Mem} {p : Int} (s : Int) (hp : p < 16) : F48 (tkF L p) (dwF L p s) := by
  unfold dwF
  show F48 _ (if _ then _ else _)
  split
  · exact (F48.grp hp).tr (F48.ins (Or.inl (by omega)))
  · split
    · exact (F48.grp hp).tr (F48.pb _ _ _)
    · exact (F48.grp hp).tr (F48.wrap _ _ _)
theorem Vl.of {L L' : Mem} (V : Vl L) (w : Vw L' (fun _ => False)) (k : K67 L L') (f : F48 L L') : Vl L' := by
  refine Vl.mk (fun t h1 h2 z => w t h1 h2 (fun h => h) z) (fun g h1 h2 h ax ha => ?_)
  rw [k 6 (Or.inl rfl), k 7 (Or.inr rfl)]
  exact V.flo g h1 h2 (f g h1 h2 h) ax ha
theorem Vl.w {L : Mem} (V : Vl L) : Vw L (fun _ => False) := fun t h1 h2 _ z => V.wts t h1 h2 z
