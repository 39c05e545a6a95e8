/-! THE PLAN DOES NOT LOOK AT WHAT IS ACTIVE -/
def E4 (L L' : Mem) : Prop := ∀ k : Nat, k ≠ 4 → L' k = L k
theorem E4.mbr {L L' : Mem} (e : E4 L L') : mbrF L' = mbrF L := by
  funext h i
  have : ∀ m : Nat, mbrG L' h i m = mbrG L h i m := by
    intro m
    induction m with
    | zero => rfl
    | succ m ih => unfold mbrG; rw [e 0 (by omega), e 1 (by omega), ih]
  exact this 49
theorem E4.us {L L' : Mem} (e : E4 L L') (q g : Int) : Us L' q g ↔ Us L q g := by unfold Us; rw [e 0 (by omega)]
theorem E4.int {L L' : Mem} (e : E4 L L') (x : Int) : InT L' x ↔ InT L x := by unfold InT Us; rw [e 0 (by omega)]
theorem E4.nx {L L' : Mem} (e : E4 L L') : ∀ (n : Nat) (x : Int), nx L' n x = nx L n x
  | 0, _ => rfl
  | n + 1, x => by
    unfold Jvm.Pilot.CDockTreeLaw_law_r5321_3fbd41.nx
    rw [e.mbr, e 0 (by omega), e 1 (by omega), e 2 (by omega), e.nx n]
theorem E4.suc {L L' : Mem} (e : E4 L L') : suc L' = suc L := by
  funext x
  unfold Jvm.Pilot.CDockTreeLaw_law_r5321_3fbd41.suc NXT
  rw [e.mbr, e.nx]
theorem E4.gmx {L L' : Mem} (e : E4 L L') (f : Int → Int) (x ax : Int) : ∀ m : Nat, gmx f L' x ax m = gmx f L x ax m := by
  intro m
  induction m with
  | zero => unfold Jvm.Pilot.CDockTreeLaw_law_r5321_3fbd41.gmx; first | rfl | simp only [e.mbr]
  | succ m ih => unfold Jvm.Pilot.CDockTreeLaw_law_r5321_3fbd41.gmx; rw [e.mbr, ih]
theorem E4.leC {L L' : Mem} (e : E4 L L') (P : Mem) : leC P L' = leC P L := by
  funext x k; unfold Jvm.Pilot.CDockTreeLaw_law_r5321_3fbd41.leC; rw [e.mbr, e 5 (by omega)]
theorem E4.cel {L L' : Mem} (e : E4 L L') (s x : Int) : cel L' s x = cel L s x := by unfold Jvm.Pilot.CDockTreeLaw_law_r5321_3fbd41.cel; rw [e 2 (by omega)]
theorem E4.tg {L L' : Mem} (e : E4 L L') (P : Mem) (x : Int) : tgC P L' x = tgC P L x := by unfold tgC; rw [e.leC, e.cel, e 2 (by omega), e 5 (by omega)]
theorem E4.sh {L L' : Mem} (e : E4 L L') (P : Mem) (x : Int) : shC P L' x = shC P L x := by
  have w : wtC L' x = wtC L x := by funext k; unfold wtC; rw [e.mbr, e 3 (by omega)]
  unfold shC; rw [e.leC, e.cel, e 2 (by omega), e 5 (by omega), w]
theorem PlE.e4 {L L' P : Mem} {f : Int → Int} {w h : Int} {r : Int → Nat} (e : E4 L L') (A : PlE L f w h r P) : PlE L' f w h r P := by
  obtain ⟨⟨a1, a2, a3, a4⟩, b, c, d1, d2⟩ := A
  refine PlE.mk (Pl0.mk ?_ ?_ ?_ ?_) ?_ ?_ ?_ ?_
  · unfold MoW at a1 ⊢; rw [e.mbr, e 2 (by omega)]; exact a1
  · obtain ⟨o1, o2, o3, o4, o5, o6, o7, o8, o9, o10⟩ := a2
    refine Ord.mk o1 ?_ o3 ?_ ?_ ?_ ?_ ?_ ?_ o10
    · exact fun k h1 h2 => (e.int _).mpr (o2 k h1 h2)
    · exact fun x hx => o4 x ((e.int _).mp hx)
    · rw [e 2 (by omega), e.mbr]; exact o5
    · rw [e 2 (by omega)]; exact o6
    · rw [e 0 (by omega)]; exact o7
    · rw [e.suc]; exact o8
    · rw [e.suc]; exact o9
  · intro x hx
    have := a3 x ((e.int _).mp hx)
    unfold WE at this ⊢
    rw [e.mbr, e 2 (by omega), e 5 (by omega)]
    intro ax ha
    rw [e.gmx]; exact this ax ha
  · obtain ⟨t1, t2⟩ := a4
    refine Tp.mk ?_ ?_
    · rw [e 0 (by omega), e 6 (by omega), e 7 (by omega)]; exact t1
    · rw [e 0 (by omega)]; exact fun x hx => t2 x ((e.int _).mp hx)
  · intro x hx z
    have := b x ((e.int _).mp hx) z
    unfold BE at this ⊢
    rw [e.mbr, e 2 (by omega), e 5 (by omega), e.sh, e.tg]; exact this
  · exact fun x hx => c x ((e.int _).mp hx)
  · rw [d1]; congr 1; funext k; rw [e.tg]
  · rw [d2, e 2 (by omega), e 5 (by omega)]
theorem RK.c {L L' : Mem} {r : Int → Nat} (A : RK L r) (e : L' 0 = L 0) : RK L' r := by unfold RK; rw [e]; exact A
