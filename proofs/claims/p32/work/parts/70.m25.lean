/-! sharing: the reference's passes -/
/-- what a sharing of the reference stands on: node s with m children, their least sizes and weights -/
def RfQ (T Z : Mem) (s : Int) (m : Nat) (le wt : Int → Int) : Prop :=
  (kdT T s = m) ∧
  (∀ k : Int, 0 ≤ k → k < m → 0 ≤ chT T s k) ∧
  (∀ k : Int, 0 ≤ k → k < m → ltF T Z s (chT T s k) = le k) ∧
  (∀ k : Int, 0 ≤ k → k < m → T 3 (chT T s k) = wt k)
theorem RfQ.kds {T Z : Mem} {s : Int} {m : Nat} {le wt : Int → Int} (h9 : RfQ T Z s m le wt) : kdT T s = m := h9.1
theorem RfQ.chd {T Z : Mem} {s : Int} {m : Nat} {le wt : Int → Int} (h9 : RfQ T Z s m le wt) : ∀ k : Int, 0 ≤ k → k < m → 0 ≤ chT T s k := h9.2.1
theorem RfQ.rle {T Z : Mem} {s : Int} {m : Nat} {le wt : Int → Int} (h9 : RfQ T Z s m le wt) : ∀ k : Int, 0 ≤ k → k < m → ltF T Z s (chT T s k) = le k := h9.2.2.1
theorem RfQ.rwt {T Z : Mem} {s : Int} {m : Nat} {le wt : Int → Int} (h9 : RfQ T Z s m le wt) : ∀ k : Int, 0 ≤ k → k < m → T 3 (chT T s k) = wt k := h9.2.2.2
theorem RfQ.mk {T Z : Mem} {s : Int} {m : Nat} {le wt : Int → Int} (h_kds : kdT T s = m) (h_chd : ∀ k : Int, 0 ≤ k → k < m → 0 ≤ chT T s k) (h_rle : ∀ k : Int, 0 ≤ k → k < m → ltF T Z s (chT T s k) = le k) (h_rwt : ∀ k : Int, 0 ≤ k → k < m → T 3 (chT T s k) = wt k) : RfQ T Z s m le wt := ⟨h_kds, h_chd, h_rle, h_rwt⟩
theorem ltF_cong {T Z Z' : Mem} {s c : Int} (h7 : ∀ i, Z' 7 i = Z 7 i) (h8 : ∀ i, Z' 8 i = Z 8 i) : ltF T Z' s c = ltF T Z s c := by unfold ltF; rw [h7, h8]
/-- a look with the free ones fr -/
def Lk (Z : Mem) (m : Nat) (fr : Int → Int) : Prop :=
  (∀ k : Int, 0 ≤ k → k < m → (0 < Z 15 k ↔ fr k ≠ 1))
theorem Lk.r15 {Z : Mem} {m : Nat} {fr : Int → Int} (h9 : Lk Z m fr) : ∀ k : Int, 0 ≤ k → k < m → (0 < Z 15 k ↔ fr k ≠ 1) := h9
theorem Lk.mk {Z : Mem} {m : Nat} {fr : Int → Int} (h_r15 : ∀ k : Int, 0 ≤ k → k < m → (0 < Z 15 k ↔ fr k ≠ 1)) : Lk Z m fr := h_r15
theorem look_e {T Z Z0 : Mem} {s : Int} {m : Nat} {a : Int} {le wt fr : Int → Int} (h : ShOk m a le wt) (hn : smG le m < a) (hR : RfQ T Z0 s m le wt) (hk : ∀ i, Z 7 i = Z0 7 i ∧ Z 8 i = Z0 8 i) (hL : Lk Z m fr) :
    rmF9 T Z s m a = rmS m a le fr ∧ wtF T Z s m = wgS m wt fr ∧ frN T Z s m a = nwS m a le wt fr ∧
      (∀ k : Int, 0 ≤ k → k < m → frS T Z s m a 14 k = baS m a le wt fr k) ∧ (∀ k : Int, 0 ≤ k → k < m → frS T Z s m a 15 k = if fr k = 1 then (if paS m a le wt fr k < le k then 2 else 0) else 1) ∧
      (∀ (w : Nat) (i : Int), w ≠ 14 → w ≠ 15 → frS T Z s m a w i = Z w i) ∧ (∀ i : Int, i < 0 ∨ m ≤ i → frS T Z s m a 14 i = Z 14 i ∧ frS T Z s m a 15 i = Z 15 i) ∧ okX T (f1P Z m) s m (rmF9 T Z s m a) (wtF T Z s m) := by
  have lt : ∀ k : Int, 0 ≤ k → k < m → ltF T Z s (chT T s k) = le k := fun k h1 h2 => by rw [ltF_cong (fun i => (hk i).1) (fun i => (hk i).2)]; exact hR.rle k h1 h2
  have lt1 : ∀ k : Int, 0 ≤ k → k < m → ltF T (f1P Z m) s (chT T s k) = le k := fun k h1 h2 => by
    rw [← lt k h1 h2]
    exact ltF_cong (fun i => by unfold f1P; rw [if_neg (by omega)]) (fun i => by unfold f1P; rw [if_neg (by omega)])
  have e1 : rmF9 T Z s m a = rmS m a le fr := by
    unfold rmF9 rmS
    rw [smG_ext m (fun k h1 h2 => by
      show rmI T Z s k = (if fr k = 1 then 0 else le k)
      unfold rmI
      have := hL.r15 k h1 h2
      rw [lt k h1 h2]
      by_cases z : fr k = 1
      · rw [if_neg (fun q => (this.mp q) z), if_pos z]
      · rw [if_pos (this.mpr z), if_neg z])]
  have e2 : wtF T Z s m = wgS m wt fr := by
    unfold wtF wgS
    refine smG_ext m (fun k h1 h2 => ?_)
    show wtI T Z s k = (if fr k = 1 then wt k else 0)
    unfold wtI
    have := hL.r15 k h1 h2
    rw [hR.rwt k h1 h2]
    by_cases z : fr k = 1
    · rw [if_neg (fun q => (this.mp q) z), if_pos z]
    · rw [if_pos (this.mpr z), if_neg z]
  have f1 : ∀ k : Int, 0 ≤ k → k < m → f1P Z m 15 k = if fr k = 1 then 0 else 1 := fun k h1 h2 => by
    have := hL.r15 k h1 h2
    unfold f1P
    rw [if_pos ⟨rfl, h1, h2⟩]
    by_cases z : fr k = 1
    · rw [if_neg (fun q => (this.mp q) z), if_pos z]
    · rw [if_pos (this.mpr z), if_neg z]
  have fs : ∀ k : Int, 0 ≤ k → k < m → fsh T (f1P Z m) s (rmF9 T Z s m a) (wtF T Z s m) k = baS m a le wt fr k := fun k h1 h2 => by
    unfold fsh baS
    rw [f1 k h1 h2, lt1 k h1 h2, hR.rwt k h1 h2, e1, e2]
    by_cases z : fr k = 1
    · rw [if_pos z, if_pos z, if_neg (by omega)]; rfl
    · rw [if_neg z, if_neg z, if_pos rfl]
  have fx : ∀ k : Int, 0 ≤ k → k < m → ffx T (f1P Z m) s (rmF9 T Z s m a) (wtF T Z s m) k = if fr k = 1 ∧ paS m a le wt fr k < le k then 1 else 0 := fun k h1 h2 => by
    unfold ffx
    rw [f1 k h1 h2, fs k h1 h2, lt1 k h1 h2]
    unfold baS
    generalize paS m a le wt fr k = pk
    clear e1 e2 f1 fs lt lt1 hL hk hR
    grind
  have rb := rmS_b h fr
  have wb := wgS_b h fr
  have ha := h.2.1
  refine ⟨e1, e2, ?_, fun k h1 h2 => ?_, fun k h1 h2 => ?_, fun w i h14 h15 => ?_, fun i hi => ?_, ?_⟩
  · unfold frN nwS
    exact smG_ext m fx
  · unfold frS fxP
    rw [if_pos ⟨rfl, h1, h2⟩]
    exact fs k h1 h2
  · unfold frS fxP
    rw [if_neg (by omega)]
    rw [fx k h1 h2, f1 k h1 h2]
    generalize paS m a le wt fr k = pk
    clear e1 e2 f1 fs lt lt1 hL hk hR fx
    grind
  · unfold frS fxP
    rw [if_neg (by omega), if_neg (by omega)]
    unfold f1P
    rw [if_neg (by omega)]
  · unfold frS fxP f1P
    refine ⟨?_, ?_⟩
    · rw [if_neg (by omega), if_neg (by omega), if_neg (by omega)]
    · rw [if_neg (by omega), if_neg (by omega), if_neg (by omega)]
  · unfold okX
    rw [e1, e2]
    refine ⟨⟨by omega, by omega⟩, by omega, fun k hk9 hz => ?_, fun k hk9 => ?_⟩
    · rw [f1 k hk9.1 hk9.2] at hz
      by_cases z : fr k = 1
      · have := wb.2.2 k hk9.1 hk9.2 z; omega
      · rw [if_neg z] at hz; exact absurd rfl hz
    · have := (h.2.2 k hk9.1 hk9.2).2
      exact ⟨hR.chd k hk9.1 hk9.2, by rw [hR.rwt k hk9.1 hk9.2]; omega, by rw [hR.rwt k hk9.1 hk9.2]; omega⟩
theorem frG_e {T Z0 : Mem} {s : Int} {m : Nat} {a : Int} {le wt : Int → Int} (h : ShOk m a le wt) (hn : smG le m < a) (hR : RfQ T Z0 s m le wt) {N : Nat} (hz : nwS m a le wt (frS9 m a le wt N) = 0) (hnz : ∀ i : Nat, i < N → nwS m a le wt (frS9 m a le wt i) ≠ 0) :
    ∀ (d i : Nat) (Z : Mem), (∀ (w : Nat) (j : Int), w ≠ 14 → w ≠ 15 → Z w j = Z0 w j) → (∀ j : Int, j < 0 ∨ m ≤ j → Z 14 j = Z0 14 j ∧ Z 15 j = Z0 15 j) → Lk Z m (frS9 m a le wt i) → i ≤ N → N < i + d →
      (frG T s m a d Z).2 = rmS m a le (frS9 m a le wt N) ∧ (∀ k : Int, 0 ≤ k → k < m → (frG T s m a d Z).1 14 k = baS m a le wt (frS9 m a le wt N) k) ∧ (∀ k : Int, 0 ≤ k → k < m → (frG T s m a d Z).1 15 k = if frS9 m a le wt N k = 1 then 0 else 1) ∧
        (∀ (w : Nat) (j : Int), w ≠ 14 → w ≠ 15 → (frG T s m a d Z).1 w j = Z0 w j) ∧ (∀ j : Int, j < 0 ∨ m ≤ j → (frG T s m a d Z).1 14 j = Z0 14 j ∧ (frG T s m a d Z).1 15 j = Z0 15 j) ∧ okR T s m a d Z
  | 0, i, Z, _, _, _, h1, h2 => by omega
  | d + 1, i, Z, hk, ho, hL, h1, h2 => by
    obtain ⟨p1, p2, p3, p4, p5, p6, p7, p8⟩ := look_e h hn hR (fun i => ⟨hk 7 i (by omega) (by omega), hk 8 i (by omega) (by omega)⟩) hL
    unfold frG okR
    by_cases z : i = N
    · subst z
      rw [p3, if_pos hz]
      refine ⟨p1, p4, fun k k1 k2 => ?_, fun w j h14 h15 => (p6 w j h14 h15).trans (hk w j h14 h15), fun j hj => ⟨(p7 j hj).1.trans (ho j hj).1, (p7 j hj).2.trans (ho j hj).2⟩, p8, fun q => absurd hz q⟩
      show frS T Z s m a 15 k = _
      rw [p5 k k1 k2]
      have e := nxS_eq (frS9_01 m a le wt i) hz ⟨k1, k2⟩
      by_cases y : frS9 m a le wt i k = 1
      · rw [if_pos y, if_pos y, if_neg]
        intro q
        rw [y] at e
        unfold nxS at e
        rw [if_neg (fun w => by omega)] at e
        omega
      · rw [if_neg y, if_neg y]
    · have nz := hnz i (by omega)
      rw [p3, if_neg nz]
      have hL' : Lk (frS T Z s m a) m (frS9 m a le wt (i + 1)) := by
        first | with_reducible refine Lk.mk ?_ | with_reducible refine RfQ.mk ?_ ?_ ?_ ?_ | with_reducible refine ShQ.mk ?_ ?_ ?_ ?_ | with_reducible refine Que.mk ?_ ?_ ?_ ?_ ?_ ?_ ?_ ?_ | with_reducible refine QuI.mk ?_ ?_ ?_ ?_ ?_ ?_ | with_reducible refine Ord.mk ?_ ?_ ?_ ?_ ?_ ?_ ?_ ?_ ?_ ?_ | with_reducible refine LnI.mk ?_ ?_ ?_ ?_ ?_ ?_ ?_ ?_ ?_ ?_ ?_ ?_ ?_ ?_ ?_ ?_ ?_ | with_reducible refine Rl.mk ?_ ?_ ?_ ?_ ?_ ?_ ?_ ?_ ?_ ?_ ?_ ?_ ?_ | with_reducible refine Wf.mk ?_ ?_ ?_ ?_ ?_ ?_ ?_ ?_ ?_ ?_ ?_ | with_reducible refine Mb.mk ?_ ?_ ?_ ?_ ?_ | constructor
        intro k k1 k2
        rw [p5 k k1 k2]
        show _ ↔ nxS m a le wt (frS9 m a le wt i) k ≠ 1
        unfold nxS
        generalize paS m a le wt (frS9 m a le wt i) k = pk
        generalize frS9 m a le wt i k = fk
        clear p1 p2 p3 p4 p5 p6 p7 p8 hk ho hR hz hnz nz
        grind
      obtain ⟨q1, q2, q3, q4, q5, q6⟩ := frG_e h hn hR hz hnz d (i + 1) (frS T Z s m a) (fun w j h14 h15 => by rw [p6 w j h14 h15, hk w j h14 h15]) (fun j hj => by rw [(p7 j hj).1, (p7 j hj).2]; exact ho j hj) hL' (by omega) (by omega)
      exact ⟨q1, q2, q3, q4, q5, p8, fun _ => q6⟩
theorem hwG_e {fr g : Int → Int} : ∀ (d : Nat) (k : Nat) (lf : Int) (Z : Mem), (∀ j : Int, k ≤ j → j < k + d → (Z 15 j = 0 ↔ fr j = 1) ∧ Z 14 j = g j ∧ 0 ≤ g j ∧ g j ≤ 2147483000) →
    (∀ j : Int, k ≤ j → j < k + d → hwG d k lf Z 14 j = g j + (if 0 < hoL (fun i => fr (i + k)) lf (j - k).toNat ∧ fr j = 1 then 1 else 0)) ∧ (∀ j : Int, j < k ∨ k + d ≤ j → hwG d k lf Z 14 j = Z 14 j) ∧ ∀ (w : Nat) (j : Int), w ≠ 14 → hwG d k lf Z w j = Z w j
  | 0, k, lf, Z, _ => ⟨fun j h1 h2 => by omega, fun _ _ => rfl, fun _ _ _ => rfl⟩
  | d + 1, k, lf, Z, h => by
    have hk := h k (by omega) (by omega)
    unfold hwG
    have mono : ∀ (f : Int → Int) (l : Int) (n : Nat), l ≤ 0 → hoL f l n = l := by
      intro f l n hl
      induction n with
      | zero => rfl
      | succ n ih => unfold hoL; rw [ih, if_neg (by omega)]
    by_cases z : 0 < lf
    · rw [if_pos z]
      have e15 : (if Z 15 k = 0 then (1 : Int) else 0) = if fr k = 1 then 1 else 0 := by
        by_cases y : fr k = 1
        · rw [if_pos (hk.1.mpr y), if_pos y]
        · rw [if_neg (fun q => y (hk.1.mp q)), if_neg y]
      rw [e15, hk.2.1, wr_id (by split <;> omega)]
      have shift : ∀ (f : Int → Int) (l : Int) (n : Nat), hoL f l (n + 1) = hoL (fun i => f (i + 1)) (if 0 < l ∧ f 0 = 1 then l - 1 else l) n := by
        intro f l n
        induction n with
        | zero => rfl
        | succ n ih =>
          show (if 0 < hoL f l (n + 1) ∧ f ((n + 1 : Nat) : Int) = 1 then hoL f l (n + 1) - 1 else hoL f l (n + 1)) = (if 0 < hoL (fun i => f (i + 1)) _ n ∧ f ((n : Int) + 1) = 1 then hoL (fun i => f (i + 1)) _ n - 1 else hoL (fun i => f (i + 1)) _ n)
          rw [ih, show ((n + 1 : Nat) : Int) = (n : Int) + 1 by omega]
      have ih := hwG_e (fr := fr) (g := g) d (k + 1) (lf - (if fr k = 1 then 1 else 0)) (up Z 14 k (g k + (if fr k = 1 then 1 else 0))) (fun j j1 j2 => by
        have := h j (by omega) (by omega)
        refine ⟨by rw [up_e, if_neg (by omega)]; exact this.1, by rw [up_e, if_neg (by omega)]; exact this.2.1, this.2.2⟩)
      rw [show (((k + 1 : Nat) : Nat) : Int) = (k : Int) + 1 by omega] at ih
      obtain ⟨q1, q2, q3⟩ := ih
      refine ⟨fun j j1 j2 => ?_, fun j hj => ?_, fun w j hw => ?_⟩
      · by_cases y : j = k
        · subst y
          rw [q2 k (by omega), up_e, if_pos ⟨rfl, rfl⟩, show ((k : Int) - k).toNat = 0 by omega]
          show _ = g k + (if 0 < lf ∧ fr k = 1 then 1 else 0)
          by_cases x : fr k = 1
          · rw [if_pos x, if_pos ⟨z, x⟩]
          · rw [if_neg x, if_neg (fun q => x q.2)]
        · rw [q1 j (by omega) (by omega), show (j - k).toNat = (j - ((k : Int) + 1)).toNat + 1 by omega, shift]
          congr 2
          have e0 : (if 0 < lf ∧ fr (0 + (k : Int)) = 1 then lf - 1 else lf) = lf - (if fr k = 1 then 1 else 0) := by
            rw [Int.zero_add]
            by_cases x : fr k = 1
            · rw [if_pos ⟨z, x⟩, if_pos x]
            · rw [if_neg (fun q => x q.2), if_neg x]; omega
          have ef : (fun i : Int => fr (i + 1 + (k : Int))) = fun i : Int => fr (i + ((k : Int) + 1)) := by
            funext i
            rw [show i + 1 + (k : Int) = i + ((k : Int) + 1) by omega]
          show (0 < hoL (fun i => fr (i + ((k : Int) + 1))) (lf - (if fr k = 1 then 1 else 0)) _ ∧ _) = (0 < hoL (fun i => fr (i + 1 + (k : Int))) (if 0 < lf ∧ fr (0 + (k : Int)) = 1 then lf - 1 else lf) _ ∧ _)
          rw [e0, ef]
      · rw [q2 j (by omega), up_e, if_neg (by omega)]
      · rw [q3 w j hw, up_e, if_neg (by omega)]
    · rw [if_neg z]
      refine ⟨fun j j1 j2 => ?_, fun _ _ => rfl, fun _ _ _ => rfl⟩
      have := h j j1 j2
      rw [this.2.1, mono _ _ _ (by omega), if_neg (by omega)]
      omega
