/-! THE MACHINE, SEEN AS A MEMORY. A state of all own cells: which there are (S), the ints (mu), the longs (la). A slot of an object or of an int row at address a, place i, holds mu a i. -/
abbrev Gx : Type := va_G × (ClassId × ClassId × ClassId × ClassId) × (Nat → Nat) × Nat × (State → Prop)
abbrev Sk : Type := Value ⊕ Nat
abbrev Shp : Type := (Nat × Nat) ⊕ (Nat × Nat × (Nat → Option Nat)) ⊕ (Nat × List Sk)
abbrev Sh : Type := List Nat × (Nat → Shp)
abbrev Mem : Type := Nat → Int → Int
abbrev Lam : Type := Nat → Nat → Int64
def I32 (x : Int) : Int32 := Int32.ofInt x
def gD (G : Gx) : va_G := G.1
def gZ (G : Gx) : Nat := G.2.2.2.1
def gA (G : Gx) : Nat → Prop := fun q => gZ G ≤ q
def gT (G : Gx) : List (ClassId × FieldType) := [(G.2.1.1, .int), (G.2.1.1, .int), (G.2.1.2.2.1, .object RX4), (G.2.1.2.2.2, .object RX7)]
def eRef (G : Gx) (x : Int) : Value := if x ≤ 0 then .null else .ref (G.2.2.1 (x - 1).toNat)
def sV (G : Gx) (mu : Mem) (la : Lam) (a k : Nat) : Sk → Value
  | .inl v => v
  | .inr 0 => .int (I32 (mu a k))
  | .inr 1 => .long (la a k)
  | .inr _ => eRef G (mu a k)
def oV (G : Gx) (mu : Mem) (la : Lam) (a : Nat) : Nat → List Sk → List Value
  | _, [] => []
  | k, x :: r => sV G mu la a k x :: oV G mu la a (k + 1) r
def ins (G : Gx) (mu : Mem) (la : Lam) (a : Nat) : Shp → va_E
  | .inl (0, n) => .inl (G.2.1.1, n, .inl (fun j => I32 (mu a j)))
  | .inl (_, n) => .inl (G.2.1.1, n, .inl (fun j => I32 (mu a j)))
  | .inr (.inl (0, n, f)) => .inl (G.2.1.2.2.1, n, .inr (.inr (.inr (.inr f))))
  | .inr (.inl (_, n, f)) => .inl (G.2.1.2.2.2, n, .inr (.inr (.inr (.inr f))))
  | .inr (.inr (ci, ks)) => .inr (ci, oV G mu la a 0 ks)
def wl (G : Gx) (S : Sh) (mu : Mem) (la : Lam) : va_W := va_pl S.1 (fun a => ins G mu la a (S.2 a))
def hasS (S : Sh) (a : Nat) (x : Shp) : Prop := a ∈ S.1 ∧ S.2 a = x
/-- what a heap holds -/
def Hr (G : Gx) (S : Sh) (n : Nat) (mu : Mem) (la : Lam) (H : Heap) : Prop := va_P (gD G) vwCl (wl G S mu la) H ∧ va_D (gA G) (wl G S mu la) ∧ H.size = n ∧ gZ G ≤ n
def up (mu : Mem) (a : Nat) (i : Int) (v : Int) : Mem := fun b j => if b = a ∧ j = i then v else mu b j
def upl (la : Lam) (a : Nat) (i : Nat) (v : Int64) : Lam := fun b j => if b = a ∧ j = i then v else la b j
theorem up_s (mu : Mem) (a : Nat) (i v : Int) : up mu a i v a i = v := by simp [up]
theorem up_a (mu : Mem) {a b : Nat} (i v j : Int) (h : b ≠ a) : up mu a i v b j = mu b j := by simp [up, h]
theorem up_i (mu : Mem) (a : Nat) {i j : Int} (v : Int) (h : j ≠ i) : up mu a i v a j = mu a j := by simp [up, h]
theorem up_e (mu : Mem) (a : Nat) (i v : Int) (b : Nat) (j : Int) : up mu a i v b j = if b = a ∧ j = i then v else mu b j := rfl
theorem oV_get (G : Gx) (mu : Mem) (la : Lam) (a : Nat) : ∀ (ks : List Sk) (k0 k : Nat), (oV G mu la a k0 ks)[k]? = (ks[k]?).map (sV G mu la a (k0 + k))
  | [], _, k => by simp [oV]
  | x :: r, k0, 0 => by simp [oV]
  | x :: r, k0, k + 1 => by
    have h := oV_get G mu la a r (k0 + 1) k
    simp only [oV, List.getElem?_cons_succ, h]
    rw [show k0 + 1 + k = k0 + (k + 1) by omega]
theorem oV_len (G : Gx) (mu : Mem) (la : Lam) (a : Nat) : ∀ (ks : List Sk) (k0 : Nat), (oV G mu la a k0 ks).length = ks.length
  | [], _ => rfl
  | x :: r, k0 => by simp [oV, oV_len G mu la a r (k0 + 1)]
theorem sV_off (G : Gx) (mu mu' : Mem) (la la' : Lam) (a k : Nat) (x : Sk) (h1 : mu' a k = mu a k) (h2 : la' a k = la a k) : sV G mu' la' a k x = sV G mu la a k x := by
  rcases x with v | (_ | _ | _)
  · rfl
  · simp [sV, h1]
  · simp [sV, h2]
  · simp [sV, h1]
theorem ins_off (G : Gx) {mu mu' : Mem} {la la' : Lam} {a : Nat} (x : Shp) (h1 : ∀ i, mu' a i = mu a i) (h2 : ∀ i, la' a i = la a i) : ins G mu' la' a x = ins G mu la a x := by
  rcases x with ⟨_ | _, n⟩ | ⟨_ | _, n, f⟩ | ⟨ci, ks⟩
  · simp [ins, h1]
  · simp [ins, h1]
  · rfl
  · rfl
  · simp only [ins]
    congr 2
    apply List.ext_getElem?
    intro k
    rw [oV_get, oV_get]
    cases ks[k]? with
    | none => rfl
    | some y => simp [sV_off G mu mu' la la' a _ y (h1 _) (h2 _)]
theorem wl_get {G : Gx} {S : Sh} {mu : Mem} {la : Lam} {a : Nat} {x : Shp} (h : hasS S a x) : ∃ k : Nat, (wl G S mu la)[k]? = some (a, ins G mu la a x) := by
  obtain ⟨k, hk⟩ := va_pl_get (X := []) (f := fun a => ins G mu la a (S.2 a)) h.1
  refine ⟨k, ?_⟩
  have := hk
  simp only [List.nil_append] at this
  rw [h.2] at this
  exact this
theorem wl_set {G : Gx} {S : Sh} {mu mu' : Mem} {la la' : Lam} {a k : Nat} {x : Shp} {A : Nat → Prop} (hD : va_D A (wl G S mu la)) (h : hasS S a x) (hk : (wl G S mu la)[k]? = some (a, ins G mu la a x))
    (h1 : ∀ b i, b ≠ a → mu' b i = mu b i) (h2 : ∀ b i, b ≠ a → la' b i = la b i) : (wl G S mu la).set k (a, ins G mu' la' a x) = wl G S mu' la' := by
  have e := va_pl_set (X := []) (A := A) (L := S.1) (f := fun a => ins G mu la a (S.2 a)) (a := a) (k := k) (e := ins G mu' la' a x) hD h.1 (by rw [h.2]; exact hk)
  simp only [List.nil_append] at e
  refine e.trans (va_pl_congr fun b => ?_)
  by_cases hb : b = a
  · subst hb
    rw [va_up_self, h.2]
  · rw [va_up_ne _ _ hb]
    exact (ins_off G (S.2 b) (fun i => h1 b i hb) (fun i => h2 b i hb)).symm
/-- a new cell -/
def grow (S : Sh) (a : Nat) (x : Shp) : Sh := (S.1 ++ [a], va_up S.2 a x)
theorem wl_push {G : Gx} {S : Sh} {mu : Mem} {la : Lam} {a : Nat} {x : Shp} (h : a ∉ S.1) : wl G S mu la ++ [(a, ins G mu la a x)] = wl G (grow S a x) mu la := by
  rw [wl, va_pl_push h]
  refine va_pl_congr fun b => ?_
  by_cases hb : b = a
  · subst hb; simp [grow, va_up_self]
  · simp [grow, va_up_ne _ _ hb]
theorem hasS_grow {S : Sh} {a b : Nat} {x y : Shp} (h : hasS S b y) (hb : b ≠ a) : hasS (grow S a x) b y := ⟨List.mem_append_left _ h.1, by show va_up S.2 a x b = y; rw [va_up_ne _ _ hb]; exact h.2⟩
theorem hasS_new (S : Sh) (a : Nat) (x : Shp) : hasS (grow S a x) a x := ⟨List.mem_append_right _ (by simp), va_up_self _ _ _⟩
/-- the words of the nest: members of mates -/
def nW : List Cond := [Cond.methodLinkNest "DockTree" 25 ⟨"DockTree$CommandText", "<init>", "()V"⟩ "DockTree",
  Cond.methodLinkNest "DockTree" 32 ⟨"DockTree$Plan", "<init>", "()V"⟩ "DockTree",  Cond.methodLinkNest "DockTree$Layout" 42 ⟨"DockTree", "copyRow", "([I[I)V"⟩ "DockTree",
  Cond.methodLinkNest "DockTree$Layout" 46 ⟨"DockTree", "at", "([II)I"⟩ "DockTree",
  Cond.methodLinkNest "DockTree$Layout" 50 ⟨"DockTree", "put", "([III)V"⟩ "DockTree",
  Cond.methodLinkNest "DockTree$Layout" 77 ⟨"DockTree", "isSplit", "(I)Z"⟩ "DockTree",
  Cond.methodLinkNest "DockTree$Plan" 123 ⟨"DockTree", "put", "([III)V"⟩ "DockTree",
  Cond.methodLinkNest "DockTree$Plan" 38 ⟨"DockTree$Sharing", "<init>", "()V"⟩ "DockTree",
  Cond.methodLinkNest "DockTree$Plan" 54 ⟨"DockTree", "at", "([II)I"⟩ "DockTree",
  Cond.methodLinkNest "DockTree$Plan" 75 ⟨"DockTree", "isSplit", "(I)Z"⟩ "DockTree",
  Cond.methodLinkNest "DockTree$Sharing" 31 ⟨"DockTree", "put", "([III)V"⟩ "DockTree",
  Cond.methodLinkNest "DockTree$Sharing" 35 ⟨"DockTree", "at", "([II)I"⟩ "DockTree",
  Cond.methodLinkNest "DockTree$State" 39 ⟨"DockTree", "copyRow", "([I[I)V"⟩ "DockTree",
  Cond.methodLinkNest "DockTree$State" 55 ⟨"DockTree", "at", "([II)I"⟩ "DockTree",
  Cond.methodLinkNest "DockTree$State" 59 ⟨"DockTree", "put", "([III)V"⟩ "DockTree",
  Cond.fieldLinkNest "DockTree" 246 "DockTree$State" "least" "[I" "DockTree",
  Cond.fieldLinkNest "DockTree" 59 "DockTree$State" "width" "I" "DockTree",
  Cond.fieldLinkNest "DockTree" 63 "DockTree$State" "height" "I" "DockTree",
  Cond.fieldLinkNest "DockTree" 76 "DockTree$State" "panes" "I" "DockTree",
  Cond.fieldLinkNest "DockTree" 97 "DockTree$State" "layout" "LDockTree$Layout;" "DockTree"]
/-- what stays true of the tables, from call to call -/
def PE (G : Gx) (U : State) : Prop := va_K (gD G) vwCl (gT G) U ∧ (∀ w ∈ nW, va_Nw w U) ∧ G.2.2.2.2 U
def GP (G : Gx) : Prop := (∀ (s U : State), s.WarmedH U.vm → s.heap.size ≤ U.heap.size → (∀ q : Nat, q < s.heap.size → ¬ gA G q → U.heap[q]? = s.heap[q]?) → G.2.2.2.2 s → G.2.2.2.2 U) ∧
  (∀ (U : State) (g : JFrame) (mk : MethodId) (a : Array Value), G.2.2.2.2 U → G.2.2.2.2 (U.calling g mk a))
def nestOk : Cond → Bool
  | .methodLinkNest _ _ _ _ => true
  | .fieldLinkNest _ _ _ _ _ _ => true
  | _ => false
theorem nW_ok : ∀ w ∈ nW, nestOk w = true := by decide +kernel
theorem PE.moved {G : Gx} (hG : GP G) {s U : State} (hW : s.WarmedH U.vm) (hz : s.heap.size ≤ U.heap.size) (hq : ∀ q : Nat, q < s.heap.size → ¬ gA G q → U.heap[q]? = s.heap[q]?) (h : PE G s) : PE G U := by
  refine ⟨va_K.moved hW.alike h.1, fun w hw => ?_, hG.1 s U hW hz hq h.2.2⟩
  have h1 := h.2.1 w hw
  have h2 := nW_ok w hw
  cases w <;> first | (cases h2; done) | exact va_Nw.warmM hW h1 | exact va_Nw.warmF hW h1
theorem PE.call {G : Gx} (hG : GP G) {U : State} (g : JFrame) (mk : MethodId) (a : Array Value) (h : PE G U) : PE G (U.calling g mk a) := by
  refine ⟨va_K.moved (u := U) (U := U.calling g mk a) (Vm.Alike.refl U.vm) h.1, fun w hw => ?_, hG.2 U g mk a h.2.2⟩
  have h1 := h.2.1 w hw
  have h2 := nW_ok w hw
  cases w <;> first | (cases h2; done) | exact va_Nw.same (u := U) (U := U.calling g mk a) rfl rfl h1
/-- where a method's body stands: program, launch, .., code, goal, number of its registers, the tables -/
abbrev Cx : Type := Program × Launch × Env × Room × State × MethodId × Array Value × List Frame × Method × Code × (State → Prop) × Nat × Gx
abbrev xP (X : Cx) : Program := X.1
abbrev xL (X : Cx) : Launch := X.2.1
abbrev xE (X : Cx) : Env := X.2.2.1
abbrev xR (X : Cx) : Room := X.2.2.2.1
abbrev xS (X : Cx) : State := X.2.2.2.2.1
abbrev xM (X : Cx) : MethodId := X.2.2.2.2.2.1
abbrev xA (X : Cx) : Array Value := X.2.2.2.2.2.2.1
abbrev xB (X : Cx) : List Frame := X.2.2.2.2.2.2.2.1
abbrev xT (X : Cx) : Method := X.2.2.2.2.2.2.2.2.1
abbrev xC (X : Cx) : Code := X.2.2.2.2.2.2.2.2.2.1
abbrev xQ (X : Cx) : State → Prop := X.2.2.2.2.2.2.2.2.2.2.1
abbrev xN (X : Cx) : Nat := X.2.2.2.2.2.2.2.2.2.2.2.1
abbrev xG (X : Cx) : Gx := X.2.2.2.2.2.2.2.2.2.2.2.2
/-- the registers: a list by their numbers -/
abbrev Rg : Type := List (Option Value)
def rOf : Nat → Rg → List (Nat × Value)
  | _, [] => []
  | i, none :: r => rOf (i + 1) r
  | i, some v :: r => (i, v) :: rOf (i + 1) r
def rG : Rg → Nat → Option Value
  | [], _ => none
  | x :: _, 0 => x
  | _ :: r, i + 1 => rG r i
def rS : Rg → Nat → Value → Rg
  | [], _, _ => []
  | _ :: r, 0, v => some v :: r
  | x :: r, i + 1, v => x :: rS r i v
def rU : Rg → Nat → Rg
  | [], _ => []
  | _ :: r, 0 => none :: r
  | x :: r, i + 1 => x :: rU r i
/-- no long lies ahead of register i -/
def rK : Rg → Nat → Bool
  | [], _ => true
  | _, 0 => true
  | some (.long _) :: _, 1 => false
  | some (.double _) :: _, 1 => false
  | _ :: r, i + 1 => rK r i
theorem rOf_mem : ∀ (r : Rg) (i : Nat) (q : Nat × Value), q ∈ rOf i r ↔ i ≤ q.1 ∧ rG r (q.1 - i) = some q.2
  | [], i, q => by simp [rOf, rG]
  | none :: r, i, q => by
    rw [rOf, rOf_mem r (i + 1) q]
    constructor
    · rintro ⟨h1, h2⟩
      refine ⟨by omega, ?_⟩
      rw [show q.1 - i = (q.1 - (i + 1)) + 1 by omega]
      exact h2
    · rintro ⟨h1, h2⟩
      by_cases he : q.1 = i
      · rw [he, Nat.sub_self] at h2; cases h2
      · refine ⟨by omega, ?_⟩
        rw [show q.1 - i = (q.1 - (i + 1)) + 1 by omega] at h2
        exact h2
  | some v :: r, i, q => by
    rw [rOf, List.mem_cons, rOf_mem r (i + 1) q]
    constructor
    · rintro (rfl | ⟨h1, h2⟩)
      · exact ⟨Nat.le_refl _, by rw [Nat.sub_self]; rfl⟩
      · refine ⟨by omega, ?_⟩
        rw [show q.1 - i = (q.1 - (i + 1)) + 1 by omega]
        exact h2
    · rintro ⟨h1, h2⟩
      by_cases he : q.1 = i
      · rw [he, Nat.sub_self] at h2
        cases q
        simp only [rG, Option.some.injEq] at h2
        simp only at he
        subst he; subst h2
        exact Or.inl rfl
      · refine Or.inr ⟨by omega, ?_⟩
        rw [show q.1 - i = (q.1 - (i + 1)) + 1 by omega] at h2
        exact h2
theorem rG_rS : ∀ (r : Rg) (i j : Nat) (v w : Value), rG (rS r i v) j = some w → (j = i ∧ w = v) ∨ (j ≠ i ∧ rG r j = some w)
  | [], i, j, v, w, h => by simp [rS, rG] at h
  | x :: r, 0, 0, v, w, h => by simp only [rS, rG, Option.some.injEq] at h; exact Or.inl ⟨rfl, h.symm⟩
  | x :: r, 0, j + 1, v, w, h => Or.inr ⟨by omega, h⟩
  | x :: r, i + 1, 0, v, w, h => Or.inr ⟨by omega, h⟩
  | x :: r, i + 1, j + 1, v, w, h => by
    rcases rG_rS r i j v w h with ⟨h1, h2⟩ | ⟨h1, h2⟩
    · exact Or.inl ⟨by omega, h2⟩
    · exact Or.inr ⟨by omega, h2⟩
theorem rG_rU : ∀ (r : Rg) (i j : Nat) (w : Value), rG (rU r i) j = some w → j ≠ i ∧ rG r j = some w
  | [], i, j, w, h => by simp [rU, rG] at h
  | x :: r, 0, 0, w, h => by simp [rU, rG] at h
  | x :: r, 0, j + 1, w, h => ⟨by omega, h⟩
  | x :: r, i + 1, 0, w, h => ⟨by omega, h⟩
  | x :: r, i + 1, j + 1, w, h => by
    obtain ⟨h1, h2⟩ := rG_rU r i j w h
    exact ⟨by omega, h2⟩
theorem rK_spec : ∀ (r : Rg) (i j : Nat) (w : Value), rK r i = true → rG r j = some w → j + 1 = i → w.category ≠ 2
  | [], i, j, w, _, h, _ => by simp [rG] at h
  | x :: r, 0, j, w, _, _, h => by omega
  | x :: r, i + 1, j + 1, w, hk, h, he => by
    refine rK_spec r i j w ?_ h (by omega)
    cases i with
    | zero => omega
    | succ i =>
      unfold rK at hk
      rcases x with _ | (_ | _ | _ | _ | _ | _ | _) <;> exact hk
  | x :: r, i + 1, 0, w, hk, h, he => by
    have h0 : i = 0 := by omega
    subst h0
    simp only [rG] at h
    subst h
    cases w <;> simp_all [rK, Value.category]
theorem lv_setS {ls : Array Slot} {nL i : Nat} {r : Rg} {v : Value} (h : lv_has ls nL ((i, v) :: (rOf 0 r).filter (fun q => !(q.1 == i) && !(q.1 + 1 == i && q.2.category == 2)))) (hk : rK r i = true) : lv_has ls nL (rOf 0 (rS r i v)) := by
  refine ⟨h.1, h.2.1, fun q hq => h.2.2 q ?_⟩
  obtain ⟨-, h2⟩ := (rOf_mem _ _ _).mp hq
  rw [Nat.sub_zero] at h2
  rcases rG_rS r i q.1 v q.2 h2 with ⟨h3, h4⟩ | ⟨h3, h4⟩
  · cases q
    simp only at h3 h4
    subst h3; subst h4
    exact List.mem_cons_self
  · refine List.mem_cons_of_mem _ (List.mem_filter.mpr ⟨(rOf_mem _ _ _).mpr ⟨Nat.zero_le _, h4⟩, ?_⟩)
    have h5 : ¬ (q.1 + 1 = i ∧ q.2.category = 2) := fun z => rK_spec r i q.1 q.2 hk h4 z.1 z.2
    simp only [Bool.and_eq_true, Bool.not_eq_true', beq_eq_false_iff_ne, ne_eq, h3, not_false_eq_true, true_and]
    by_cases h6 : q.1 + 1 = i
    · have h7 : ¬ q.2.category = 2 := fun z => h5 ⟨h6, z⟩
      simp [h7]
    · simp [h6]
theorem lv_setL {ls : Array Slot} {nL i : Nat} {r : Rg} {v : Value} (h : lv_has ls nL ((i, v) :: (rOf 0 r).filter (fun q => !(q.1 == i) && (!(q.1 == i + 1) && !(q.1 + 1 == i && q.2.category == 2))))) (hk : rK r i = true) : lv_has ls nL (rOf 0 (rU (rS r i v) (i + 1))) := by
  refine ⟨h.1, h.2.1, fun q hq => h.2.2 q ?_⟩
  obtain ⟨-, h2⟩ := (rOf_mem _ _ _).mp hq
  rw [Nat.sub_zero] at h2
  obtain ⟨h8, h2⟩ := rG_rU _ _ _ _ h2
  rcases rG_rS r i q.1 v q.2 h2 with ⟨h3, h4⟩ | ⟨h3, h4⟩
  · cases q
    simp only at h3 h4
    subst h3; subst h4
    exact List.mem_cons_self
  · refine List.mem_cons_of_mem _ (List.mem_filter.mpr ⟨(rOf_mem _ _ _).mpr ⟨Nat.zero_le _, h4⟩, ?_⟩)
    have h5 : ¬ (q.1 + 1 = i ∧ q.2.category = 2) := fun z => rK_spec r i q.1 q.2 hk h4 z.1 z.2
    simp only [Bool.and_eq_true, Bool.not_eq_true', beq_eq_false_iff_ne, ne_eq, h3, h8, not_false_eq_true, true_and]
    by_cases h6 : q.1 + 1 = i
    · have h7 : ¬ q.2.category = 2 := fun z => h5 ⟨h6, z⟩
      simp [h7]
    · simp [h6]
theorem lv_rG {ls : Array Slot} {nL i : Nat} {r : Rg} {v : Value} (h : lv_has ls nL (rOf 0 r)) (hg : rG r i = some v) : ls[i]? = some (.val v) :=
  h.2.2 (i, v) ((rOf_mem _ _ _).mpr ⟨Nat.zero_le _, by rw [Nat.sub_zero]; exact hg⟩)
/-- the machine at pc, with registers r, stack st, cells S (n of them, all in all), ints mu, longs la; k cells and sl slots made: it comes to the goal -/
def V (X : Cx) (pc : Nat) (r : Rg) (st : List Value) (S : Sh) (n : Nat) (mu : Mem) (la : Lam) (k sl : Nat) : Prop :=
  ∀ (H : Heap) (locs : List Loc) (ls : Array Slot), Hr (xG X) S n mu la H → va_S (gA (xG X)) (xS X).heap H locs → lv_has ls (xN X) (rOf 0 r) →
    W (xP X) (xL X) (xE X) (xR X) (xS X) (xM X) (xA X) (xB X) (xT X) (xC X) H locs k sl (xQ X) (F0 (xM X) pc ls st)
/-- the code is cc of a method of 'own'; the words hold; fr frames are left -/
def Ok (X : Cx) (cc : ByteArray) (Ts : List Cond) (own : String) (ret : Option FieldType) (fr nL : Nat) : Prop :=
  (xP X).tables.exec = Jvm.exec ∧ (xC X).code = cc ∧ (xC X).maxLocals = xN X ∧ xN X = nL ∧ (xS X).vm.findClass own = some (xM X).cls ∧ (∀ w ∈ Ts, w.before (xA X) (xS X) = true) ∧ (xT X).sig.returnType = ret ∧ (xT X).locks = false ∧
  PE (xG X) (xS X) ∧ gZ (xG X) ≤ (xS X).heap.size ∧ GP (xG X) ∧ (xR X).frames = fr ∧ (xR X).locals = 30 * fr
theorem Ok.own {X cc Ts own ret fr nL} (C : Ok X cc Ts own ret fr nL) : (xS X).vm.findClass own = some (xM X).cls := C.2.2.2.2.1
theorem Ok.ts {X cc Ts own ret fr nL} (C : Ok X cc Ts own ret fr nL) : ∀ w ∈ Ts, w.before (xA X) (xS X) = true := C.2.2.2.2.2.1
theorem Ok.ret {X cc Ts own ret fr nL} (C : Ok X cc Ts own ret fr nL) : (xT X).sig.returnType = ret := C.2.2.2.2.2.2.1
theorem Ok.locks {X cc Ts own ret fr nL} (C : Ok X cc Ts own ret fr nL) : (xT X).locks = false := C.2.2.2.2.2.2.2.1
theorem Ok.pe {X cc Ts own ret fr nL} (C : Ok X cc Ts own ret fr nL) : PE (xG X) (xS X) := C.2.2.2.2.2.2.2.2.1
theorem Ok.sz {X cc Ts own ret fr nL} (C : Ok X cc Ts own ret fr nL) : gZ (xG X) ≤ (xS X).heap.size := C.2.2.2.2.2.2.2.2.2.1
theorem Ok.gp {X cc Ts own ret fr nL} (C : Ok X cc Ts own ret fr nL) : GP (xG X) := C.2.2.2.2.2.2.2.2.2.2.1
theorem Ok.frames {X cc Ts own ret fr nL} (C : Ok X cc Ts own ret fr nL) : (xR X).frames = fr := C.2.2.2.2.2.2.2.2.2.2.2.1
theorem Ok.regs {X cc Ts own ret fr nL} (C : Ok X cc Ts own ret fr nL) : (xR X).locals = 30 * fr := C.2.2.2.2.2.2.2.2.2.2.2.2
theorem Ok.hA {X cc Ts own ret fr nL} (C : Ok X cc Ts own ret fr nL) : ∀ q : Nat, (xS X).heap.size ≤ q → gA (xG X) q := fun q h => Nat.le_trans C.sz h
section VR
variable {X : Cx} {cc : ByteArray} {Ts : List Cond} {own : String} {ret : Option FieldType} {fr nL : Nat} {pc : Nat} {r : Rg} {st : List Value} {S : Sh} {n : Nat} {mu : Mem} {la : Lam} {k sl : Nat}
theorem I32_toInt {x : Int} (h : -2147483648 ≤ x ∧ x ≤ 2147483647) : (I32 x).toInt = x := Int32.toInt_ofInt_of_le (by omega) (by omega)
theorem I32_inj {x y : Int} (hx : -2147483648 ≤ x ∧ x ≤ 2147483647) (hy : -2147483648 ≤ y ∧ y ≤ 2147483647) : I32 x = I32 y ↔ x = y :=
  ⟨fun h => by rw [← I32_toInt hx, ← I32_toInt hy, h], fun h => by rw [h]⟩
theorem I32_lt {x y : Int} (hx : -2147483648 ≤ x ∧ x ≤ 2147483647) (hy : -2147483648 ≤ y ∧ y ≤ 2147483647) : I32 x < I32 y ↔ x < y := by
  rw [Int32.lt_iff_toInt_lt, I32_toInt hx, I32_toInt hy]
theorem I32_le {x y : Int} (hx : -2147483648 ≤ x ∧ x ≤ 2147483647) (hy : -2147483648 ≤ y ∧ y ≤ 2147483647) : I32 x ≤ I32 y ↔ x ≤ y := by
  rw [Int32.le_iff_toInt_le, I32_toInt hx, I32_toInt hy]
theorem I32_0 : (0 : Int32) = I32 0 := rfl
theorem I32_add (x y : Int) : I32 x + I32 y = I32 (x + y) := (Int32.ofInt_add x y).symm
theorem I32_sub (x y : Int) : I32 x - I32 y = I32 (x - y) := (Int32.ofInt_sub x y).symm
theorem I32_mul (x y : Int) : I32 x * I32 y = I32 (x * y) := (Int32.ofInt_mul x y).symm
theorem I32_of (v : Int32) : I32 v.toInt = v := Int32.ofInt_toInt v
theorem I32_nat (m : Nat) : Int32.ofNat m = I32 m := rfl
theorem I32_clamp {x : Int} (h : 0 ≤ x ∧ x ≤ 2147483647) : (I32 x).toNatClampNeg = x.toNat := by
  have e : (I32 x).toNatClampNeg = (I32 x).toInt.toNat := rfl
  rw [e, I32_toInt ⟨by omega, h.2⟩]
theorem I32_in {x : Int} {m : Nat} (h : 0 ≤ x ∧ x < m) (hm : m < 2147483648) : vp_in (I32 x) m := by
  intro q
  rcases q with q | q
  · rw [I32_0, I32_lt (by omega) (by omega)] at q; omega
  · rw [I32_clamp (by omega)] at q; omega
theorem I32_bound (v : Int32) : -2147483648 ≤ v.toInt ∧ v.toInt ≤ 2147483647 := by
  have h1 := Int32.le_toInt v
  have h2 := Int32.toInt_lt v
  omega

theorem V_iconst (C : Ok X cc Ts own ret fr nL) {v : Int} (hd : decode cc pc = .ok (.iconst v, 1))
    (kk : V X (pc + 1) r (.int (I32 v) :: st) S n mu la k sl) : V X pc r st S n mu la k sl := fun H locs ls hH hS hl => lv_iconst C.1 C.2.1 hd rfl (kk H locs ls hH hS hl)
theorem V_bipush (C : Ok X cc Ts own ret fr nL) {v : Int} (hd : decode cc pc = .ok (.bipush v, 2))
    (hv : (Int8.ofInt v).toInt32 = I32 v) (kk : V X (pc + 2) r (.int (I32 v) :: st) S n mu la k sl) : V X pc r st S n mu la k sl := fun H locs ls hH hS hl => lv_bipush C.1 C.2.1 hd hv (kk H locs ls hH hS hl)
theorem V_sipush (C : Ok X cc Ts own ret fr nL) {v : Int} (hd : decode cc pc = .ok (.sipush v, 3))
    (hv : (Int16.ofInt v).toInt32 = I32 v) (kk : V X (pc + 3) r (.int (I32 v) :: st) S n mu la k sl) : V X pc r st S n mu la k sl := fun H locs ls hH hS hl => lv_sipush C.1 C.2.1 hd hv (kk H locs ls hH hS hl)
theorem V_lconst (C : Ok X cc Ts own ret fr nL) {i : Fin 2} {v : Int64} (hd : decode cc pc = .ok (.lconst i, 1))
    (hv : Int64.ofNat (i : Nat) = v) (kk : V X (pc + 1) r (.long v :: st) S n mu la k sl) : V X pc r st S n mu la k sl := fun H locs ls hH hS hl => lv_lconst C.1 C.2.1 hd hv (kk H locs ls hH hS hl)
theorem V_iload_n (C : Ok X cc Ts own ret fr nL) {i : Fin 4} {v : Int32} (hd : decode cc pc = .ok (.iload_n i, 1))
    (hg : rG r i = some (.int v)) (kk : V X (pc + 1) r (.int v :: st) S n mu la k sl) : V X pc r st S n mu la k sl := fun H locs ls hH hS hl => lv_iload_n C.1 C.2.1 hd rfl (lv_rG hl hg) (kk H locs ls hH hS hl)
theorem V_iload (C : Ok X cc Ts own ret fr nL) {i : Nat} {v : Int32} (hd : decode cc pc = .ok (.iload i, 2))
    (hg : rG r i = some (.int v)) (kk : V X (pc + 2) r (.int v :: st) S n mu la k sl) : V X pc r st S n mu la k sl := fun H locs ls hH hS hl => lv_iload C.1 C.2.1 hd (lv_rG hl hg) (kk H locs ls hH hS hl)
theorem V_lload_n (C : Ok X cc Ts own ret fr nL) {i : Fin 4} {v : Int64} (hd : decode cc pc = .ok (.lload_n i, 1))
    (hg : rG r i = some (.long v)) (kk : V X (pc + 1) r (.long v :: st) S n mu la k sl) : V X pc r st S n mu la k sl := fun H locs ls hH hS hl => lv_lload_n C.1 C.2.1 hd rfl (lv_rG hl hg) (kk H locs ls hH hS hl)
theorem V_lload (C : Ok X cc Ts own ret fr nL) {i : Nat} {v : Int64} (hd : decode cc pc = .ok (.lload i, 2))
    (hg : rG r i = some (.long v)) (kk : V X (pc + 2) r (.long v :: st) S n mu la k sl) : V X pc r st S n mu la k sl := fun H locs ls hH hS hl => lv_lload C.1 C.2.1 hd (lv_rG hl hg) (kk H locs ls hH hS hl)
theorem V_aload_n (C : Ok X cc Ts own ret fr nL) {i : Fin 4} {v : Nat} (hd : decode cc pc = .ok (.aload_n i, 1))
    (hg : rG r i = some (.ref v)) (kk : V X (pc + 1) r (.ref v :: st) S n mu la k sl) : V X pc r st S n mu la k sl := fun H locs ls hH hS hl => lv_aload_n C.1 C.2.1 hd rfl (lv_rG hl hg) (kk H locs ls hH hS hl)
theorem V_aload (C : Ok X cc Ts own ret fr nL) {i : Nat} {v : Nat} (hd : decode cc pc = .ok (.aload i, 2))
    (hg : rG r i = some (.ref v)) (kk : V X (pc + 2) r (.ref v :: st) S n mu la k sl) : V X pc r st S n mu la k sl := fun H locs ls hH hS hl => lv_aload C.1 C.2.1 hd (lv_rG hl hg) (kk H locs ls hH hS hl)
theorem V_istore_n (C : Ok X cc Ts own ret fr nL) {i : Fin 4} {v : Int32} (hd : decode cc pc = .ok (.istore_n i, 1))
    (hk : rK r i = true) (hi : (i : Nat) < nL) (kk : V X (pc + 1) (rS r i (.int v)) st S n mu la k sl) : V X pc r (.int v :: st) S n mu la k sl := fun H locs ls hH hS hl => lv_istore_n C.1 C.2.1 hd rfl hl (by rw [← C.2.2.2.1] at hi; exact hi) rfl (fun ls' hl' => kk H locs ls' hH hS (lv_setS hl' hk))
theorem V_istore (C : Ok X cc Ts own ret fr nL) {i : Nat} {v : Int32} (hd : decode cc pc = .ok (.istore i, 2))
    (hk : rK r i = true) (hi : i < nL) (kk : V X (pc + 2) (rS r i (.int v)) st S n mu la k sl) : V X pc r (.int v :: st) S n mu la k sl := fun H locs ls hH hS hl => lv_istore C.1 C.2.1 hd hl (by rw [← C.2.2.2.1] at hi; exact hi) rfl (fun ls' hl' => kk H locs ls' hH hS (lv_setS hl' hk))
theorem V_astore_n (C : Ok X cc Ts own ret fr nL) {i : Fin 4} {v : Nat} (hd : decode cc pc = .ok (.astore_n i, 1))
    (hk : rK r i = true) (hi : (i : Nat) < nL) (kk : V X (pc + 1) (rS r i (.ref v)) st S n mu la k sl) : V X pc r (.ref v :: st) S n mu la k sl := fun H locs ls hH hS hl => lv_astore_n C.1 C.2.1 hd rfl hl (by rw [← C.2.2.2.1] at hi; exact hi) rfl (fun ls' hl' => kk H locs ls' hH hS (lv_setS hl' hk))
theorem V_astore (C : Ok X cc Ts own ret fr nL) {i : Nat} {v : Nat} (hd : decode cc pc = .ok (.astore i, 2))
    (hk : rK r i = true) (hi : i < nL) (kk : V X (pc + 2) (rS r i (.ref v)) st S n mu la k sl) : V X pc r (.ref v :: st) S n mu la k sl := fun H locs ls hH hS hl => lv_astore C.1 C.2.1 hd hl (by rw [← C.2.2.2.1] at hi; exact hi) rfl (fun ls' hl' => kk H locs ls' hH hS (lv_setS hl' hk))
theorem V_lstore_n (C : Ok X cc Ts own ret fr nL) {i : Fin 4} {v : Int64} (hd : decode cc pc = .ok (.lstore_n i, 1))
    (hk : rK r i = true) (hi : (i : Nat) + 1 < nL) (kk : V X (pc + 1) (rU (rS r i (.long v)) (i + 1)) st S n mu la k sl) : V X pc r (.long v :: st) S n mu la k sl := fun H locs ls hH hS hl => lv_lstore_n C.1 C.2.1 hd rfl hl (by rw [← C.2.2.2.1] at hi; exact hi) rfl (fun ls' hl' => kk H locs ls' hH hS (lv_setL hl' hk))
theorem V_lstore (C : Ok X cc Ts own ret fr nL) {i : Nat} {v : Int64} (hd : decode cc pc = .ok (.lstore i, 2))
    (hk : rK r i = true) (hi : i + 1 < nL) (kk : V X (pc + 2) (rU (rS r i (.long v)) (i + 1)) st S n mu la k sl) : V X pc r (.long v :: st) S n mu la k sl := fun H locs ls hH hS hl => lv_lstore C.1 C.2.1 hd hl (by rw [← C.2.2.2.1] at hi; exact hi) rfl (fun ls' hl' => kk H locs ls' hH hS (lv_setL hl' hk))
theorem V_iinc (C : Ok X cc Ts own ret fr nL) {i : Nat} {x c : Int} (hd : decode cc pc = .ok (.iinc i c, 3))
    (hg : rG r i = some (.int (I32 x))) (hk : rK r i = true) (hi : i < nL) (kk : V X (pc + 3) (rS r i (.int (I32 (x + c)))) st S n mu la k sl) : V X pc r st S n mu la k sl := fun H locs ls hH hS hl => by
  obtain ⟨j, hj⟩ := List.getElem?_of_mem ((rOf_mem r 0 (i, Value.int (I32 x))).mpr ⟨Nat.zero_le _, by rw [Nat.sub_zero]; exact hg⟩)
  exact lv_iinc C.1 C.2.1 hd hl hj (v := I32 (x + c)) (by rw [← I32_add]; rfl) (by rw [← C.2.2.2.1] at hi; exact hi) rfl (fun ls' hl' => kk H locs ls' hH hS (lv_setS hl' hk))
theorem V_iadd (C : Ok X cc Ts own ret fr nL) {x y : Int} (hd : decode cc pc = .ok (.iadd, 1))
    (kk : V X (pc + 1) r (.int (I32 (x + y)) :: st) S n mu la k sl) : V X pc r (.int (I32 y) :: .int (I32 x) :: st) S n mu la k sl := fun H locs ls hH hS hl => lv_iadd C.1 C.2.1 hd (by rw [I32_add]; exact kk H locs ls hH hS hl)
theorem V_isub (C : Ok X cc Ts own ret fr nL) {x y : Int} (hd : decode cc pc = .ok (.isub, 1))
    (kk : V X (pc + 1) r (.int (I32 (x - y)) :: st) S n mu la k sl) : V X pc r (.int (I32 y) :: .int (I32 x) :: st) S n mu la k sl := fun H locs ls hH hS hl => lv_isub C.1 C.2.1 hd (by rw [I32_sub]; exact kk H locs ls hH hS hl)
theorem V_imul (C : Ok X cc Ts own ret fr nL) {x y : Int} (hd : decode cc pc = .ok (.imul, 1))
    (kk : V X (pc + 1) r (.int (I32 (x * y)) :: st) S n mu la k sl) : V X pc r (.int (I32 y) :: .int (I32 x) :: st) S n mu la k sl := fun H locs ls hH hS hl => lv_imul C.1 C.2.1 hd (by rw [I32_mul]; exact kk H locs ls hH hS hl)
theorem V_ineg (C : Ok X cc Ts own ret fr nL) {x : Int} (hd : decode cc pc = .ok (.ineg, 1))
    (kk : V X (pc + 1) r (.int (I32 (-x)) :: st) S n mu la k sl) : V X pc r (.int (I32 x) :: st) S n mu la k sl := fun H locs ls hH hS hl => lv_ineg C.1 C.2.1 hd (by rw [show -I32 x = I32 (-x) from (Int32.ofInt_neg x).symm]; exact kk H locs ls hH hS hl)
theorem V_iand (C : Ok X cc Ts own ret fr nL) {x y : Int32} (hd : decode cc pc = .ok (.iand, 1))
    (kk : V X (pc + 1) r (.int (x &&& y) :: st) S n mu la k sl) : V X pc r (.int y :: .int x :: st) S n mu la k sl := fun H locs ls hH hS hl => lv_iand C.1 C.2.1 hd (kk H locs ls hH hS hl)
theorem I32_div {x y : Int} (hx : 0 ≤ x ∧ x ≤ 2147483647) (hy : 0 < y ∧ y ≤ 2147483647) : I32 x / I32 y = I32 (x / y) := by
  have h := pk_div (a := x.toNat) (d := y.toNat) (by omega) (by omega) (by omega)
  have e1 : nI x.toNat = I32 x := by rw [show nI x.toNat = I32 (x.toNat : Int) from rfl, Int.toNat_of_nonneg hx.1]
  have e2 : nI y.toNat = I32 y := by rw [show nI y.toNat = I32 (y.toNat : Int) from rfl, Int.toNat_of_nonneg (by omega)]
  have e3 : nI (x.toNat / y.toNat) = I32 (x / y) := by
    rw [show nI (x.toNat / y.toNat) = I32 ((x.toNat / y.toNat : Nat) : Int) from rfl, Int.natCast_ediv, Int.toNat_of_nonneg hx.1, Int.toNat_of_nonneg (by omega)]
  rw [e1, e2, e3] at h
  exact h
theorem I32_rem {x y : Int} (hx : 0 ≤ x ∧ x ≤ 2147483647) (hy : 0 < y ∧ y ≤ 2147483647) : I32 x - I32 x / I32 y * I32 y = I32 (x % y) := by
  rw [I32_div hx hy, I32_mul, I32_sub, Int.emod_def, Int.mul_comm]
theorem V_idiv (C : Ok X cc Ts own ret fr nL) {x y : Int} (hd : decode cc pc = .ok (.idiv, 1))
    (hx : 0 ≤ x ∧ x ≤ 2147483647) (hy : 0 < y ∧ y ≤ 2147483647) (kk : V X (pc + 1) r (.int (I32 (x / y)) :: st) S n mu la k sl) : V X pc r (.int (I32 y) :: .int (I32 x) :: st) S n mu la k sl := fun H locs ls hH hS hl => lv_idiv C.1 C.2.1 hd (by rw [I32_0, I32_inj (by omega) (by omega)]; omega) (by rw [I32_div hx hy]; exact kk H locs ls hH hS hl)
theorem V_irem (C : Ok X cc Ts own ret fr nL) {x y : Int} (hd : decode cc pc = .ok (.irem, 1))
    (hx : 0 ≤ x ∧ x ≤ 2147483647) (hy : 0 < y ∧ y ≤ 2147483647) (kk : V X (pc + 1) r (.int (I32 (x % y)) :: st) S n mu la k sl) : V X pc r (.int (I32 y) :: .int (I32 x) :: st) S n mu la k sl := fun H locs ls hH hS hl => lv_irem C.1 C.2.1 hd (by rw [I32_0, I32_inj (by omega) (by omega)]; omega) (by rw [I32_rem hx hy]; exact kk H locs ls hH hS hl)
theorem V_i2l (C : Ok X cc Ts own ret fr nL) {x : Int32} (hd : decode cc pc = .ok (.i2l, 1))
    (kk : V X (pc + 1) r (.long x.toInt64 :: st) S n mu la k sl) : V X pc r (.int x :: st) S n mu la k sl := fun H locs ls hH hS hl => lv_i2l C.1 C.2.1 hd rfl (kk H locs ls hH hS hl)
theorem V_l2i (C : Ok X cc Ts own ret fr nL) {x : Int64} (hd : decode cc pc = .ok (.l2i, 1))
    (kk : V X (pc + 1) r (.int x.toInt32 :: st) S n mu la k sl) : V X pc r (.long x :: st) S n mu la k sl := fun H locs ls hH hS hl => lv_l2i C.1 C.2.1 hd rfl (kk H locs ls hH hS hl)
theorem V_ladd (C : Ok X cc Ts own ret fr nL) {x y : Int64} (hd : decode cc pc = .ok (.ladd, 1))
    (kk : V X (pc + 1) r (.long (x + y) :: st) S n mu la k sl) : V X pc r (.long y :: .long x :: st) S n mu la k sl := fun H locs ls hH hS hl => lv_ladd C.1 C.2.1 hd (kk H locs ls hH hS hl)
theorem V_lmul (C : Ok X cc Ts own ret fr nL) {x y : Int64} (hd : decode cc pc = .ok (.lmul, 1))
    (kk : V X (pc + 1) r (.long (x * y) :: st) S n mu la k sl) : V X pc r (.long y :: .long x :: st) S n mu la k sl := fun H locs ls hH hS hl => lv_lmul C.1 C.2.1 hd (kk H locs ls hH hS hl)
theorem V_lor (C : Ok X cc Ts own ret fr nL) {x y : Int64} (hd : decode cc pc = .ok (.lor, 1))
    (kk : V X (pc + 1) r (.long (x ||| y) :: st) S n mu la k sl) : V X pc r (.long y :: .long x :: st) S n mu la k sl := fun H locs ls hH hS hl => lv_lor C.1 C.2.1 hd (kk H locs ls hH hS hl)
theorem V_ldiv (C : Ok X cc Ts own ret fr nL) {x y : Int64} (hd : decode cc pc = .ok (.ldiv, 1))
    (hne : ¬ y = 0) (kk : V X (pc + 1) r (.long (x / y) :: st) S n mu la k sl) : V X pc r (.long y :: .long x :: st) S n mu la k sl := fun H locs ls hH hS hl => lv_ldiv C.1 C.2.1 hd hne (kk H locs ls hH hS hl)
theorem V_lshl (C : Ok X cc Ts own ret fr nL) {x : Int64} {y : Int32} (hd : decode cc pc = .ok (.lshl, 1))
    (kk : V X (pc + 1) r (.long (x <<< (y.toInt64 &&& 63)) :: st) S n mu la k sl) : V X pc r (.int y :: .long x :: st) S n mu la k sl := fun H locs ls hH hS hl => lv_lshl C.1 C.2.1 hd rfl (kk H locs ls hH hS hl)
theorem V_lcmp (C : Ok X cc Ts own ret fr nL) {x y : Int64} (hd : decode cc pc = .ok (.lcmp, 1))
    (kk : V X (pc + 1) r (.int (lg_cmp x y) :: st) S n mu la k sl) : V X pc r (.long y :: .long x :: st) S n mu la k sl := fun H locs ls hH hS hl => W.lcmp C.1 C.2.1 hd (kk H locs ls hH hS hl)
theorem V_dup (C : Ok X cc Ts own ret fr nL) {v : Value} (hd : decode cc pc = .ok (.dup, 1))
    (hv : v.category = 1) (kk : V X (pc + 1) r (v :: v :: st) S n mu la k sl) : V X pc r (v :: st) S n mu la k sl := fun H locs ls hH hS hl => lv_dup C.1 C.2.1 hd hv (kk H locs ls hH hS hl)
theorem V_dup2 (C : Ok X cc Ts own ret fr nL) {v w : Value} (hd : decode cc pc = .ok (.dup2, 1))
    (hv : v.category = 1) (hw : w.category = 1) (kk : V X (pc + 1) r (v :: w :: v :: w :: st) S n mu la k sl) : V X pc r (v :: w :: st) S n mu la k sl := fun H locs ls hH hS hl => lv_dup2_11 C.1 C.2.1 hd hv hw (kk H locs ls hH hS hl)
theorem V_goto (C : Ok X cc Ts own ret fr nL) {off : Int} (tgt : Nat) (hd : decode cc pc = .ok (.goto off, 3)) (ht : (pc : Int) + off = (tgt : Int)) (kk : V X tgt r st S n mu la k sl) : V X pc r st S n mu la k sl := fun H locs ls hH hS hl => lv_goto C.1 C.2.1 hd ht (kk H locs ls hH hS hl)
theorem V_icmp_eq (C : Ok X cc Ts own ret fr nL) {x y off : Int} (tgt : Nat) (hd : decode cc pc = .ok (.if_icmp .eq off, 3)) (ht : (pc : Int) + off = (tgt : Int)) (hx : -2147483648 ≤ x ∧ x ≤ 2147483647) (hy : -2147483648 ≤ y ∧ y ≤ 2147483647)
    (kt : x = y → V X tgt r st S n mu la k sl) (kf : ¬ x = y → V X (pc + 3) r st S n mu la k sl) : V X pc r (.int (I32 y) :: .int (I32 x) :: st) S n mu la k sl := fun H locs ls hH hS hl =>
  lv_icmp_eq C.1 C.2.1 hd ht (fun q => (fun q => kt ((I32_inj hx hy).mp q)) q H locs ls hH hS hl) (fun q => (fun q => kf (fun z => q ((I32_inj hx hy).mpr z))) q H locs ls hH hS hl)
theorem V_if_eq (C : Ok X cc Ts own ret fr nL) {x off : Int} (tgt : Nat) (hd : decode cc pc = .ok (.ifCond .eq off, 3)) (ht : (pc : Int) + off = (tgt : Int)) (hx : -2147483648 ≤ x ∧ x ≤ 2147483647)
    (kt : x = 0 → V X tgt r st S n mu la k sl) (kf : ¬ x = 0 → V X (pc + 3) r st S n mu la k sl) : V X pc r (.int (I32 x) :: st) S n mu la k sl := fun H locs ls hH hS hl =>
  have h0 : -2147483648 ≤ (0 : Int) ∧ (0 : Int) ≤ 2147483647 := by omega
  lv_if_eq C.1 C.2.1 hd ht (fun q => (fun q => kt ((I32_inj hx h0).mp q)) q H locs ls hH hS hl) (fun q => (fun q => kf (fun z => q ((I32_inj hx h0).mpr z))) q H locs ls hH hS hl)
theorem V_icmp_ne (C : Ok X cc Ts own ret fr nL) {x y off : Int} (tgt : Nat) (hd : decode cc pc = .ok (.if_icmp .ne off, 3)) (ht : (pc : Int) + off = (tgt : Int)) (hx : -2147483648 ≤ x ∧ x ≤ 2147483647) (hy : -2147483648 ≤ y ∧ y ≤ 2147483647)
    (kt : ¬ x = y → V X tgt r st S n mu la k sl) (kf : x = y → V X (pc + 3) r st S n mu la k sl) : V X pc r (.int (I32 y) :: .int (I32 x) :: st) S n mu la k sl := fun H locs ls hH hS hl =>
  lv_icmp_ne C.1 C.2.1 hd ht (fun q => (fun q => kt (fun z => q ((I32_inj hx hy).mpr z))) q H locs ls hH hS hl) (fun q => (fun q => kf ((I32_inj hx hy).mp q)) q H locs ls hH hS hl)
theorem V_if_ne (C : Ok X cc Ts own ret fr nL) {x off : Int} (tgt : Nat) (hd : decode cc pc = .ok (.ifCond .ne off, 3)) (ht : (pc : Int) + off = (tgt : Int)) (hx : -2147483648 ≤ x ∧ x ≤ 2147483647)
    (kt : ¬ x = 0 → V X tgt r st S n mu la k sl) (kf : x = 0 → V X (pc + 3) r st S n mu la k sl) : V X pc r (.int (I32 x) :: st) S n mu la k sl := fun H locs ls hH hS hl =>
  have h0 : -2147483648 ≤ (0 : Int) ∧ (0 : Int) ≤ 2147483647 := by omega
  lv_if_ne C.1 C.2.1 hd ht (fun q => (fun q => kt (fun z => q ((I32_inj hx h0).mpr z))) q H locs ls hH hS hl) (fun q => (fun q => kf ((I32_inj hx h0).mp q)) q H locs ls hH hS hl)
theorem V_icmp_lt (C : Ok X cc Ts own ret fr nL) {x y off : Int} (tgt : Nat) (hd : decode cc pc = .ok (.if_icmp .lt off, 3)) (ht : (pc : Int) + off = (tgt : Int)) (hx : -2147483648 ≤ x ∧ x ≤ 2147483647) (hy : -2147483648 ≤ y ∧ y ≤ 2147483647)
    (kt : x < y → V X tgt r st S n mu la k sl) (kf : y ≤ x → V X (pc + 3) r st S n mu la k sl) : V X pc r (.int (I32 y) :: .int (I32 x) :: st) S n mu la k sl := fun H locs ls hH hS hl =>
  lv_icmp_lt C.1 C.2.1 hd ht (fun q => (fun q => kt ((I32_lt hx hy).mp q)) q H locs ls hH hS hl) (fun q => (fun q => kf (by rw [I32_lt hx hy] at q; omega)) q H locs ls hH hS hl)
theorem V_if_lt (C : Ok X cc Ts own ret fr nL) {x off : Int} (tgt : Nat) (hd : decode cc pc = .ok (.ifCond .lt off, 3)) (ht : (pc : Int) + off = (tgt : Int)) (hx : -2147483648 ≤ x ∧ x ≤ 2147483647)
    (kt : x < 0 → V X tgt r st S n mu la k sl) (kf : 0 ≤ x → V X (pc + 3) r st S n mu la k sl) : V X pc r (.int (I32 x) :: st) S n mu la k sl := fun H locs ls hH hS hl =>
  have h0 : -2147483648 ≤ (0 : Int) ∧ (0 : Int) ≤ 2147483647 := by omega
  lv_if_lt C.1 C.2.1 hd ht (fun q => (fun q => kt ((I32_lt hx h0).mp q)) q H locs ls hH hS hl) (fun q => (fun q => kf (by rw [I32_0, I32_lt hx h0] at q; omega)) q H locs ls hH hS hl)
theorem V_icmp_ge (C : Ok X cc Ts own ret fr nL) {x y off : Int} (tgt : Nat) (hd : decode cc pc = .ok (.if_icmp .ge off, 3)) (ht : (pc : Int) + off = (tgt : Int)) (hx : -2147483648 ≤ x ∧ x ≤ 2147483647) (hy : -2147483648 ≤ y ∧ y ≤ 2147483647)
    (kt : y ≤ x → V X tgt r st S n mu la k sl) (kf : x < y → V X (pc + 3) r st S n mu la k sl) : V X pc r (.int (I32 y) :: .int (I32 x) :: st) S n mu la k sl := fun H locs ls hH hS hl =>
  lv_icmp_ge C.1 C.2.1 hd ht (fun q => (fun q => kt ((I32_le hy hx).mp q)) q H locs ls hH hS hl) (fun q => (fun q => kf (by rw [I32_le hy hx] at q; omega)) q H locs ls hH hS hl)
theorem V_if_ge (C : Ok X cc Ts own ret fr nL) {x off : Int} (tgt : Nat) (hd : decode cc pc = .ok (.ifCond .ge off, 3)) (ht : (pc : Int) + off = (tgt : Int)) (hx : -2147483648 ≤ x ∧ x ≤ 2147483647)
    (kt : 0 ≤ x → V X tgt r st S n mu la k sl) (kf : x < 0 → V X (pc + 3) r st S n mu la k sl) : V X pc r (.int (I32 x) :: st) S n mu la k sl := fun H locs ls hH hS hl =>
  have h0 : -2147483648 ≤ (0 : Int) ∧ (0 : Int) ≤ 2147483647 := by omega
  lv_if_ge C.1 C.2.1 hd ht (fun q => (fun q => kt ((I32_le h0 hx).mp q)) q H locs ls hH hS hl) (fun q => (fun q => kf (by rw [I32_0, I32_le h0 hx] at q; omega)) q H locs ls hH hS hl)
theorem V_icmp_gt (C : Ok X cc Ts own ret fr nL) {x y off : Int} (tgt : Nat) (hd : decode cc pc = .ok (.if_icmp .gt off, 3)) (ht : (pc : Int) + off = (tgt : Int)) (hx : -2147483648 ≤ x ∧ x ≤ 2147483647) (hy : -2147483648 ≤ y ∧ y ≤ 2147483647)
    (kt : y < x → V X tgt r st S n mu la k sl) (kf : x ≤ y → V X (pc + 3) r st S n mu la k sl) : V X pc r (.int (I32 y) :: .int (I32 x) :: st) S n mu la k sl := fun H locs ls hH hS hl =>
  lv_icmp_gt C.1 C.2.1 hd ht (fun q => (fun q => kt ((I32_lt hy hx).mp q)) q H locs ls hH hS hl) (fun q => (fun q => kf (by rw [I32_lt hy hx] at q; omega)) q H locs ls hH hS hl)
theorem V_if_gt (C : Ok X cc Ts own ret fr nL) {x off : Int} (tgt : Nat) (hd : decode cc pc = .ok (.ifCond .gt off, 3)) (ht : (pc : Int) + off = (tgt : Int)) (hx : -2147483648 ≤ x ∧ x ≤ 2147483647)
    (kt : 0 < x → V X tgt r st S n mu la k sl) (kf : x ≤ 0 → V X (pc + 3) r st S n mu la k sl) : V X pc r (.int (I32 x) :: st) S n mu la k sl := fun H locs ls hH hS hl =>
  have h0 : -2147483648 ≤ (0 : Int) ∧ (0 : Int) ≤ 2147483647 := by omega
  lv_if_gt C.1 C.2.1 hd ht (fun q => (fun q => kt ((I32_lt h0 hx).mp q)) q H locs ls hH hS hl) (fun q => (fun q => kf (by rw [I32_0, I32_lt h0 hx] at q; omega)) q H locs ls hH hS hl)
theorem V_icmp_le (C : Ok X cc Ts own ret fr nL) {x y off : Int} (tgt : Nat) (hd : decode cc pc = .ok (.if_icmp .le off, 3)) (ht : (pc : Int) + off = (tgt : Int)) (hx : -2147483648 ≤ x ∧ x ≤ 2147483647) (hy : -2147483648 ≤ y ∧ y ≤ 2147483647)
    (kt : x ≤ y → V X tgt r st S n mu la k sl) (kf : y < x → V X (pc + 3) r st S n mu la k sl) : V X pc r (.int (I32 y) :: .int (I32 x) :: st) S n mu la k sl := fun H locs ls hH hS hl =>
  lv_icmp_le C.1 C.2.1 hd ht (fun q => (fun q => kt ((I32_le hx hy).mp q)) q H locs ls hH hS hl) (fun q => (fun q => kf (by rw [I32_le hx hy] at q; omega)) q H locs ls hH hS hl)
theorem V_if_le (C : Ok X cc Ts own ret fr nL) {x off : Int} (tgt : Nat) (hd : decode cc pc = .ok (.ifCond .le off, 3)) (ht : (pc : Int) + off = (tgt : Int)) (hx : -2147483648 ≤ x ∧ x ≤ 2147483647)
    (kt : x ≤ 0 → V X tgt r st S n mu la k sl) (kf : 0 < x → V X (pc + 3) r st S n mu la k sl) : V X pc r (.int (I32 x) :: st) S n mu la k sl := fun H locs ls hH hS hl =>
  have h0 : -2147483648 ≤ (0 : Int) ∧ (0 : Int) ≤ 2147483647 := by omega
  lv_if_le C.1 C.2.1 hd ht (fun q => (fun q => kt ((I32_le hx h0).mp q)) q H locs ls hH hS hl) (fun q => (fun q => kf (by rw [I32_0, I32_le hx h0] at q; omega)) q H locs ls hH hS hl)
theorem V_ifnonnull (C : Ok X cc Ts own ret fr nL) {a : Nat} {off : Int} (tgt : Nat) (hd : decode cc pc = .ok (.ifnonnull off, 3)) (ht : (pc : Int) + off = (tgt : Int)) (kk : V X tgt r st S n mu la k sl) : V X pc r (.ref a :: st) S n mu la k sl := fun H locs ls hH hS hl => lv_ifnonnull C.1 C.2.1 hd ht (kk H locs ls hH hS hl)
theorem V_ifnonnullN (C : Ok X cc Ts own ret fr nL) {off : Int} (hd : decode cc pc = .ok (.ifnonnull off, 3)) (kk : V X (pc + 3) r st S n mu la k sl) : V X pc r (.null :: st) S n mu la k sl := fun H locs ls hH hS hl => lv_ifnonnullN C.1 C.2.1 hd (kk H locs ls hH hS hl)
theorem V_ifnull (C : Ok X cc Ts own ret fr nL) {a : Nat} {off : Int} (hd : decode cc pc = .ok (.ifnull off, 3)) (kk : V X (pc + 3) r st S n mu la k sl) : V X pc r (.ref a :: st) S n mu la k sl := fun H locs ls hH hS hl => lv_ifnull C.1 C.2.1 hd (kk H locs ls hH hS hl)
theorem V_ifnullN (C : Ok X cc Ts own ret fr nL) {off : Int} (tgt : Nat) (hd : decode cc pc = .ok (.ifnull off, 3)) (ht : (pc : Int) + off = (tgt : Int)) (kk : V X tgt r st S n mu la k sl) : V X pc r (.null :: st) S n mu la k sl := fun H locs ls hH hS hl => lv_ifnullN C.1 C.2.1 hd ht (kk H locs ls hH hS hl)
theorem V_null (C : Ok X cc Ts own ret fr nL) (hd : decode cc pc = .ok (.aconst_null, 1)) (kk : V X (pc + 1) r (.null :: st) S n mu la k sl) : V X pc r st S n mu la k sl := fun H locs ls hH hS hl => lv_null C.1 C.2.1 hd (kk H locs ls hH hS hl)
theorem V_tableOut (C : Ok X cc Ts own ret fr nL) {x dflt lo hi : Int} {offs : Array Int} {len : Nat} (tgt : Nat) (hd : decode cc pc = .ok (.tableswitch dflt lo hi offs, len)) (hx : -2147483648 ≤ x ∧ x ≤ 2147483647) (h : x < lo ∨ hi < x) (ht : (pc : Int) + dflt = (tgt : Int)) (kk : V X tgt r st S n mu la k sl) : V X pc r (.int (I32 x) :: st) S n mu la k sl := fun H locs ls hH hS hl => lv_tableOut C.1 C.2.1 hd (by rw [I32_toInt hx]; exact h) ht (kk H locs ls hH hS hl)
theorem V_tableIn (C : Ok X cc Ts own ret fr nL) {x dflt lo hi off : Int} {offs : Array Int} {len : Nat} (tgt : Nat) (hd : decode cc pc = .ok (.tableswitch dflt lo hi offs, len)) (hx : -2147483648 ≤ x ∧ x ≤ 2147483647) (h1 : lo ≤ x) (h2 : x ≤ hi) (ho : offs[(x - lo).toNat]? = some off) (ht : (pc : Int) + off = (tgt : Int)) (kk : V X tgt r st S n mu la k sl) : V X pc r (.int (I32 x) :: st) S n mu la k sl := fun H locs ls hH hS hl => lv_tableIn C.1 C.2.1 hd (by rw [I32_toInt hx]; omega) (by rw [I32_toInt hx]; omega) (by rw [I32_toInt hx]; exact ho) ht (kk H locs ls hH hS hl)
end VR
section VM2
variable {X : Cx} {cc : ByteArray} {Ts : List Cond} {own : String} {ret : Option FieldType} {fr nL : Nat} {pc : Nat} {r : Rg} {st : List Value} {S : Sh} {n : Nat} {mu : Mem} {la : Lam} {k sl : Nat}
theorem oV_set (G : Gx) (mu mu' : Mem) (la la' : Lam) (a : Nat) : ∀ (ks : List Sk) (k0 i : Nat) (x' : Sk), i < ks.length → (∀ j, j ≠ k0 + i → mu' a (j : Nat) = mu a (j : Nat)) → (∀ j, j ≠ k0 + i → la' a j = la a j) → oV G mu' la' a k0 (ks.set i x') = (oV G mu la a k0 ks).set i (sV G mu' la' a (k0 + i) x')
  | [], _, i, _, h, _, _ => by simp at h
  | y :: ks, k0, 0, x', _, h1, h2 => by
    simp only [List.set_cons_zero, oV, Nat.add_zero]
    congr 1
    apply List.ext_getElem?
    intro j
    rw [oV_get, oV_get]
    cases ks[j]? with
    | none => rfl
    | some z =>
      simp only [Option.map_some]
      rw [sV_off G mu mu' la la' a _ z (h1 _ (by omega)) (h2 _ (by omega))]
  | y :: ks, k0, i + 1, x', h, h1, h2 => by
    simp only [List.set_cons_succ, oV]
    rw [oV_set G mu mu' la la' a ks (k0 + 1) i x' (by simpa using h) (fun j hj => h1 j (by omega)) (fun j hj => h2 j (by omega)), sV_off G mu mu' la la' a k0 y (h1 _ (by omega)) (h2 _ (by omega)), show k0 + 1 + i = k0 + (i + 1) by omega]
theorem Hr.obj {G : Gx} {H : Heap} (h : Hr G S n mu la H) {a : Nat} {x : Shp} (hx : hasS S a x) : ∃ j : Nat, (wl G S mu la)[j]? = some (a, ins G mu la a x) ∧ va_at (gD G) vwCl (a, ins G mu la a x) H := by
  obtain ⟨j, hj⟩ := wl_get (G := G) (mu := mu) (la := la) hx
  exact ⟨j, hj, h.1 j _ hj⟩
theorem Hr.put {G : Gx} {H H1 : Heap} {mu' : Mem} {la' : Lam} (h : Hr G S n mu la H) {a : Nat} {x : Shp} (hx : hasS S a x) (hat : va_at (gD G) vwCl (a, ins G mu' la' a x) H1) (hz : H1.size = H.size) (oq : ∀ q : Nat, q ≠ a → H1[q]? = H[q]?)
    (h1 : ∀ b i, b ≠ a → mu' b i = mu b i) (h2 : ∀ b i, b ≠ a → la' b i = la b i) : Hr G S n mu' la' H1 := by
  obtain ⟨hP, hD, hn, hg⟩ := h
  obtain ⟨j, hj⟩ := wl_get (G := G) (mu := mu) (la := la) hx
  have hP' := hP.set hD hj hat oq
  have hD' := hD.set (e := ins G mu' la' a x) hj
  rw [wl_set hD hx hj h1 h2] at hP' hD'
  exact ⟨hP', hD', hz.trans hn, hg⟩
/-- an own cell's shape changes -/
def reS (S : Sh) (a : Nat) (x : Shp) : Sh := (S.1, va_up S.2 a x)
theorem Hr.reput {G : Gx} {H H1 : Heap} (h : Hr G S n mu la H) {a : Nat} {x x' : Shp} (hx : hasS S a x) (hat : va_at (gD G) vwCl (a, ins G mu la a x') H1) (hz : H1.size = H.size) (oq : ∀ q : Nat, q ≠ a → H1[q]? = H[q]?) : Hr G (reS S a x') n mu la H1 := by
  obtain ⟨hP, hD, hn, hg⟩ := h
  obtain ⟨j, hj⟩ := wl_get (G := G) (mu := mu) (la := la) hx
  have hP' := hP.set hD hj hat oq
  have hD' := hD.set (e := ins G mu la a x') hj
  have e : (wl G S mu la).set j (a, ins G mu la a x') = wl G (reS S a x') mu la := by
    have e := va_pl_set (X := []) (A := gA G) (L := S.1) (f := fun a => ins G mu la a (S.2 a)) (a := a) (k := j) (e := ins G mu la a x') hD hx.1 (by rw [hx.2]; exact hj)
    simp only [List.nil_append] at e
    refine e.trans (va_pl_congr fun b => ?_)
    by_cases hb : b = a
    · subst hb; simp [reS, va_up_self]
    · simp [reS, va_up_ne _ _ hb]
  rw [e] at hP' hD'
  exact ⟨hP', hD', hz.trans hn, hg⟩
theorem hasS_re {S : Sh} {a b : Nat} {x' y : Shp} (h : hasS S b y) (hb : b ≠ a) : hasS (reS S a x') b y := ⟨h.1, by show va_up S.2 a x' b = y; rw [va_up_ne _ _ hb]; exact h.2⟩
theorem hasS_reS {S : Sh} {a : Nat} {x x' : Shp} (h : hasS S a x) : hasS (reS S a x') a x' := ⟨h.1, va_up_self _ _ _⟩
theorem V_getG (C : Ok X cc Ts own ret fr nL) {a ci index N : Nat} {ks : List Sk} {Cn ref : String} {T : u_T} {x : Sk} (i : Nat) (hd : decode cc pc = .ok (.getfield index, 3)) (hx : hasS S a (.inr (.inr (ci, ks)))) (hc : vwCl[ci]? = some (Cn, T, N)) (hin : ∀ w ∈ u_ws Cn T N, w ∈ Ts) (hi : i < N)
    (hlink : (Cond.fieldLink own index ref (T i).2.1 (T i).2.2.1) ∈ Ts) (href : (T i).1 = ref) (hks : ks[i]? = some x)
    (kk : V X (pc + 3) r (sV (xG X) mu la a i x :: st) S n mu la k sl) : V X pc r (.ref a :: st) S n mu la k sl := by
  intro H locs ls hH hS hl
  obtain ⟨j, hj, -⟩ := hH.obj hx
  subst href
  exact va_get (D := gD (xG X)) (tys := gT (xG X)) C.1 C.2.1 C.ts hin C.own C.pe.1 hH.1 j hj hc i hi (C.ts _ hlink) (fun _ h => h) (by rw [oV_get, hks, Nat.zero_add]; rfl) hd (kk H locs ls hH hS hl)
theorem V_getI (C : Ok X cc Ts own ret fr nL) {a ci index N : Nat} {ks : List Sk} {Cn ref : String} {T : u_T} (i : Nat) (hd : decode cc pc = .ok (.getfield index, 3)) (hx : hasS S a (.inr (.inr (ci, ks)))) (hc : vwCl[ci]? = some (Cn, T, N)) (hin : ∀ w ∈ u_ws Cn T N, w ∈ Ts) (hi : i < N)
    (hlink : (Cond.fieldLink own index ref (T i).2.1 (T i).2.2.1) ∈ Ts) (href : (T i).1 = ref) (hks : ks[i]? = some (.inr 0))
    (kk : V X (pc + 3) r (.int (I32 (mu a i)) :: st) S n mu la k sl) : V X pc r (.ref a :: st) S n mu la k sl := V_getG C i hd hx hc hin hi hlink href hks kk
theorem V_getL (C : Ok X cc Ts own ret fr nL) {a ci index N : Nat} {ks : List Sk} {Cn ref : String} {T : u_T} (i : Nat) (hd : decode cc pc = .ok (.getfield index, 3)) (hx : hasS S a (.inr (.inr (ci, ks)))) (hc : vwCl[ci]? = some (Cn, T, N)) (hin : ∀ w ∈ u_ws Cn T N, w ∈ Ts) (hi : i < N)
    (hlink : (Cond.fieldLink own index ref (T i).2.1 (T i).2.2.1) ∈ Ts) (href : (T i).1 = ref) (hks : ks[i]? = some (.inr 1))
    (kk : V X (pc + 3) r (.long (la a i) :: st) S n mu la k sl) : V X pc r (.ref a :: st) S n mu la k sl := V_getG C i hd hx hc hin hi hlink href hks kk
theorem V_getR (C : Ok X cc Ts own ret fr nL) {a ci index N : Nat} {ks : List Sk} {Cn ref : String} {T : u_T} {v : Value} (i : Nat) (hd : decode cc pc = .ok (.getfield index, 3)) (hx : hasS S a (.inr (.inr (ci, ks)))) (hc : vwCl[ci]? = some (Cn, T, N)) (hin : ∀ w ∈ u_ws Cn T N, w ∈ Ts) (hi : i < N)
    (hlink : (Cond.fieldLink own index ref (T i).2.1 (T i).2.2.1) ∈ Ts) (href : (T i).1 = ref) (hks : ks[i]? = some (.inl v))
    (kk : V X (pc + 3) r (v :: st) S n mu la k sl) : V X pc r (.ref a :: st) S n mu la k sl := V_getG C i hd hx hc hin hi hlink href hks kk
/-- the same through the nest -/
theorem V_getNG (C : Ok X cc Ts own ret fr nL) {a ci index N : Nat} {ks : List Sk} {Cn ref host : String} {T : u_T} {x : Sk} (i : Nat) (hd : decode cc pc = .ok (.getfield index, 3)) (hx : hasS S a (.inr (.inr (ci, ks)))) (hc : vwCl[ci]? = some (Cn, T, N)) (hin : ∀ w ∈ u_ws Cn T N, w ∈ Ts) (hi : i < N)
    (hlink : (Cond.fieldLinkNest own index ref (T i).2.1 (T i).2.2.1 host) ∈ nW) (href : (T i).1 = ref) (hks : ks[i]? = some x)
    (kk : V X (pc + 3) r (sV (xG X) mu la a i x :: st) S n mu la k sl) : V X pc r (.ref a :: st) S n mu la k sl := by
  intro H locs ls hH hS hl
  obtain ⟨j, hj, -⟩ := hH.obj hx
  subst href
  exact va_getN (D := gD (xG X)) (tys := gT (xG X)) C.1 C.2.1 C.ts hin C.own C.pe.1 hH.1 j hj hc i hi (va_Nw.use rfl (C.pe.2.1 _ hlink)) (fun _ h => h) (by rw [oV_get, hks, Nat.zero_add]; rfl) hd (kk H locs ls hH hS hl)
theorem V_getNI (C : Ok X cc Ts own ret fr nL) {a ci index N : Nat} {ks : List Sk} {Cn ref host : String} {T : u_T} (i : Nat) (hd : decode cc pc = .ok (.getfield index, 3)) (hx : hasS S a (.inr (.inr (ci, ks)))) (hc : vwCl[ci]? = some (Cn, T, N)) (hin : ∀ w ∈ u_ws Cn T N, w ∈ Ts) (hi : i < N)
    (hlink : (Cond.fieldLinkNest own index ref (T i).2.1 (T i).2.2.1 host) ∈ nW) (href : (T i).1 = ref) (hks : ks[i]? = some (.inr 0))
    (kk : V X (pc + 3) r (.int (I32 (mu a i)) :: st) S n mu la k sl) : V X pc r (.ref a :: st) S n mu la k sl := V_getNG C i hd hx hc hin hi hlink href hks kk
theorem V_getNR (C : Ok X cc Ts own ret fr nL) {a ci index N : Nat} {ks : List Sk} {Cn ref host : String} {T : u_T} {v : Value} (i : Nat) (hd : decode cc pc = .ok (.getfield index, 3)) (hx : hasS S a (.inr (.inr (ci, ks)))) (hc : vwCl[ci]? = some (Cn, T, N)) (hin : ∀ w ∈ u_ws Cn T N, w ∈ Ts) (hi : i < N)
    (hlink : (Cond.fieldLinkNest own index ref (T i).2.1 (T i).2.2.1 host) ∈ nW) (href : (T i).1 = ref) (hks : ks[i]? = some (.inl v))
    (kk : V X (pc + 3) r (v :: st) S n mu la k sl) : V X pc r (.ref a :: st) S n mu la k sl := V_getNG C i hd hx hc hin hi hlink href hks kk
/-- what a write of a field does to the object's cell -/
theorem obj_put {G : Gx} {s : State} {args : Array Value} {H1 : Heap} (hts : ∀ w ∈ Ts, w.before args s = true) {ci N : Nat} {Cn : String} {T : u_T} (hc : vwCl[ci]? = some (Cn, T, N)) (hin : ∀ w ∈ u_ws Cn T N, w ∈ Ts) (ty0 : Nat → FieldType) (hty : ∀ k, k < N → parseFieldDescriptor (T k).2.2.1 = some (ty0 k)) (hnm : ∀ a, a < N → ∀ b, b < N → a ≠ b → (T a).2.1 ≠ (T b).2.1)
    (hK : va_K (gD G) vwCl (gT G) s) {a : Nat} {fs : List Value} {cell : Cell} (q2 : cell.cls = (gD G).1 ci) (q3 : cell.vm = .none) (q4 : ∀ k, k < N → cell.slots[(gD G).2 ci k]? = some (vp_V fs k)) {i : Nat} (hi : i < N) (hl : i < fs.length) {v : Value} (e1 : H1[a]? = some (cell.setSlot ((gD G).2 ci i) v)) : va_at (gD G) vwCl (a, .inr (ci, fs.set i v)) H1 :=
  ⟨_, hc, t_OB.to (V := updV (vp_V fs) i v) ⟨_, e1, q2, q3, t_set q4 (va_apart (own := Cn) hts hin ty0 hty hnm hK hc) hi v⟩ (fun j _ => vp_updV_set hl v j)⟩
theorem V_putG (C : Ok X cc Ts own ret fr nL) {a ci index N : Nat} {ks : List Sk} {Cn ref : String} {T : u_T} {v : Value} {ty : FieldType} {mu' : Mem} {la' : Lam} (i : Nat) (hd : decode cc pc = .ok (.putfield index, 3)) (hx : hasS S a (.inr (.inr (ci, ks)))) (hc : vwCl[ci]? = some (Cn, T, N)) (hin : ∀ w ∈ u_ws Cn T N, w ∈ Ts)
    (ty0 : Nat → FieldType) (hty : ∀ k, k < N → parseFieldDescriptor (T k).2.2.1 = some (ty0 k)) (hnm : ∀ a, a < N → ∀ b, b < N → a ≠ b → (T a).2.1 ≠ (T b).2.1) (hi : i < N)
    (hlink : (Cond.fieldLink own index ref (T i).2.1 (T i).2.2.1) ∈ Ts) (href : (T i).1 = ref) (hfin : (T i).2.2.2 = false) (hds : parseFieldDescriptor (T i).2.2.1 = some ty) (hn : narrow ty v = v) (hfit : fits ty v = true) (hlen : i < ks.length) (hfs : oV (xG X) mu' la' a 0 ks = (oV (xG X) mu la a 0 ks).set i v)
    (h1 : ∀ b i, b ≠ a → mu' b i = mu b i) (h2 : ∀ b i, b ≠ a → la' b i = la b i)
    (kk : V X (pc + 3) r st S n mu' la' k sl) : V X pc r (v :: .ref a :: st) S n mu la k sl := by
  intro H locs ls hH hS hl
  obtain ⟨j, hj, hat⟩ := hH.obj hx
  obtain ⟨r9, g1, cell, q1, q2, q3, q4⟩ := hat
  have hr : r9 = (Cn, T, N) := Option.some.inj (g1.symm.trans hc)
  subst hr
  obtain ⟨hSl, hfc, kC, hkC, hkind⟩ := C.pe.1.1 ci _ hc
  obtain ⟨cf, kf, fi, f, hif, hsl⟩ := hSl i hi
  have hlay := C.ts _ (hin _ (u_in_lay hi))
  unfold u_lay at hlay
  rw [if_neg (by rw [hfin]; decide)] at hlay
  have hst := (u_facts hfc hkC (u_lays C.ts hin hi) hif).1
  have h6 := u_store hfc hkC hkind hlay hif hds hn hfit
  subst href
  refine W.putK C.1 C.2.1 (f := f) ⟨C.own, C.ts _ hlink, ⟨_, _, _, hif⟩, hst⟩ (by rw [q2]; exact h6) q1 q3 (by rw [hsl]; exact k2_hasslot (q4 i hi)) rfl rfl hd fun H' e1 e2 e3 => ?_
  rw [hsl] at e1 ⊢
  refine kk H' _ ls (hH.put hx ?_ e2 e3 h1 h2) (hS.put e2 e3 (hH.2.1.2 j _ hj)) hl
  show va_at _ _ (a, .inr (ci, oV (xG X) mu' la' a 0 ks)) H'
  rw [hfs]
  exact obj_put C.ts hc hin ty0 hty hnm C.pe.1 q2 q3 q4 hi (by rw [oV_len]; exact hlen) e1
theorem V_putI (C : Ok X cc Ts own ret fr nL) {a ci index N : Nat} {ks : List Sk} {Cn ref : String} {T : u_T} {v : Int} (i : Nat) (hd : decode cc pc = .ok (.putfield index, 3)) (hx : hasS S a (.inr (.inr (ci, ks)))) (hc : vwCl[ci]? = some (Cn, T, N)) (hin : ∀ w ∈ u_ws Cn T N, w ∈ Ts)
    (ty0 : Nat → FieldType) (hty : ∀ k, k < N → parseFieldDescriptor (T k).2.2.1 = some (ty0 k)) (hnm : ∀ a, a < N → ∀ b, b < N → a ≠ b → (T a).2.1 ≠ (T b).2.1) (hi : i < N)
    (hlink : (Cond.fieldLink own index ref (T i).2.1 (T i).2.2.1) ∈ Ts) (href : (T i).1 = ref) (hfin : (T i).2.2.2 = false) (hds : parseFieldDescriptor (T i).2.2.1 = some .int) (hks : ks[i]? = some (.inr 0))
    (kk : V X (pc + 3) r st S n (up mu a i v) la k sl) : V X pc r (.int (I32 v) :: .ref a :: st) S n mu la k sl := by
  have hlen : i < ks.length := (List.getElem?_eq_some_iff.mp hks).1
  refine V_putG C i hd hx hc hin ty0 hty hnm hi hlink href hfin hds rfl rfl hlen ?_ (fun b j hb => up_a mu _ _ _ hb) (fun _ _ _ => rfl) kk
  have e := oV_set (xG X) mu (up mu a i v) la la a ks 0 i (.inr 0) hlen (fun j hj => up_i mu a v (by omega)) (fun _ _ => rfl)
  rw [show ks.set i (.inr 0) = ks from by
    apply List.ext_getElem?
    intro j
    by_cases hj : j = i
    · subst hj; rw [List.getElem?_set_self hlen, hks]
    · rw [List.getElem?_set_ne (Ne.symm hj)]] at e
  rw [e]
  simp [sV, up_s]
theorem V_putL (C : Ok X cc Ts own ret fr nL) {a ci index N : Nat} {ks : List Sk} {Cn ref : String} {T : u_T} {v : Int64} (i : Nat) (hd : decode cc pc = .ok (.putfield index, 3)) (hx : hasS S a (.inr (.inr (ci, ks)))) (hc : vwCl[ci]? = some (Cn, T, N)) (hin : ∀ w ∈ u_ws Cn T N, w ∈ Ts)
    (ty0 : Nat → FieldType) (hty : ∀ k, k < N → parseFieldDescriptor (T k).2.2.1 = some (ty0 k)) (hnm : ∀ a, a < N → ∀ b, b < N → a ≠ b → (T a).2.1 ≠ (T b).2.1) (hi : i < N)
    (hlink : (Cond.fieldLink own index ref (T i).2.1 (T i).2.2.1) ∈ Ts) (href : (T i).1 = ref) (hfin : (T i).2.2.2 = false) (hds : parseFieldDescriptor (T i).2.2.1 = some .long) (hks : ks[i]? = some (.inr 1))
    (kk : V X (pc + 3) r st S n mu (upl la a i v) k sl) : V X pc r (.long v :: .ref a :: st) S n mu la k sl := by
  have hlen : i < ks.length := (List.getElem?_eq_some_iff.mp hks).1
  refine V_putG C i hd hx hc hin ty0 hty hnm hi hlink href hfin hds rfl rfl hlen ?_ (fun _ _ _ => rfl) (fun b j hb => by simp [upl, hb]) kk
  have e := oV_set (xG X) mu mu la (upl la a i v) a ks 0 i (.inr 1) hlen (fun _ _ => rfl) (fun j hj => by simp [upl]; omega)
  rw [show ks.set i (.inr 1) = ks from by
    apply List.ext_getElem?
    intro j
    by_cases hj : j = i
    · subst hj; rw [List.getElem?_set_self hlen, hks]
    · rw [List.getElem?_set_ne (Ne.symm hj)]] at e
  rw [e]
  simp [sV, upl]
end VM2
section VM3
variable {X : Cx} {cc : ByteArray} {Ts : List Cond} {own : String} {ret : Option FieldType} {fr nL : Nat} {pc : Nat} {r : Rg} {st : List Value} {S : Sh} {n : Nat} {mu : Mem} {la : Lam} {k sl : Nat}
theorem V_iald (C : Ok X cc Ts own ret fr nL) {a m : Nat} {i : Int} (hd : decode cc pc = .ok (.iaload, 1)) (hx : hasS S a (.inl (0, m))) (hm : m < 2147483648) (hi : 0 ≤ i ∧ i < m)
    (kk : V X (pc + 1) r (.int (I32 (mu a i)) :: st) S n mu la k sl) : V X pc r (.int (I32 i) :: .ref a :: st) S n mu la k sl := by
  intro H locs ls hH hS hl
  obtain ⟨j, hj, -⟩ := hH.obj hx
  refine va_iald (D := gD (xG X)) (tys := gT (xG X)) C.1 C.2.1 C.pe.1 hH.1 j 0 hj rfl (I32_in hi hm) hd ?_
  rw [I32_clamp (by omega), Int.toNat_of_nonneg hi.1]
  exact kk H locs ls hH hS hl
theorem V_aald (C : Ok X cc Ts own ret fr nL) {a m w b : Nat} {f : Nat → Option Nat} {i : Int} (hd : decode cc pc = .ok (.aaload, 1)) (hx : hasS S a (.inr (.inl (w, m, f)))) (hm : m < 2147483648) (hi : 0 ≤ i ∧ i < m) (hf : f i.toNat = some b)
    (kk : V X (pc + 1) r (.ref b :: st) S n mu la k sl) : V X pc r (.int (I32 i) :: .ref a :: st) S n mu la k sl := by
  intro H locs ls hH hS hl
  obtain ⟨j, hj, -⟩ := hH.obj hx
  cases w with
  | zero =>
    refine va_aldq (D := gD (xG X)) (tys := gT (xG X)) C.1 C.2.1 C.pe.1 hH.1 j 2 hj rfl (I32_in hi hm) hd ?_
    rw [I32_clamp (by omega), hf]
    exact kk H locs ls hH hS hl
  | succ w =>
    refine va_aldq (D := gD (xG X)) (tys := gT (xG X)) C.1 C.2.1 C.pe.1 hH.1 j 3 hj rfl (I32_in hi hm) hd ?_
    rw [I32_clamp (by omega), hf]
    exact kk H locs ls hH hS hl
theorem V_alen (C : Ok X cc Ts own ret fr nL) {a m w : Nat} (hd : decode cc pc = .ok (.arraylength, 1)) (hx : hasS S a (.inl (w, m)))
    (kk : V X (pc + 1) r (.int (I32 m) :: st) S n mu la k sl) : V X pc r (.ref a :: st) S n mu la k sl := by
  intro H locs ls hH hS hl
  obtain ⟨j, hj, -⟩ := hH.obj hx
  cases w with
  | zero => exact va_alen (D := gD (xG X)) (tys := gT (xG X)) C.1 C.2.1 C.pe.1 hH.1 j 0 hj rfl rfl hd (kk H locs ls hH hS hl)
  | succ w => exact va_alen (D := gD (xG X)) (tys := gT (xG X)) C.1 C.2.1 C.pe.1 hH.1 j 1 hj rfl rfl hd (kk H locs ls hH hS hl)
theorem V_alenR (C : Ok X cc Ts own ret fr nL) {a m w : Nat} {f : Nat → Option Nat} (hd : decode cc pc = .ok (.arraylength, 1)) (hx : hasS S a (.inr (.inl (w, m, f))))
    (kk : V X (pc + 1) r (.int (I32 m) :: st) S n mu la k sl) : V X pc r (.ref a :: st) S n mu la k sl := by
  intro H locs ls hH hS hl
  obtain ⟨j, hj, -⟩ := hH.obj hx
  cases w with
  | zero => exact va_alen (D := gD (xG X)) (tys := gT (xG X)) C.1 C.2.1 C.pe.1 hH.1 j 2 hj rfl rfl hd (kk H locs ls hH hS hl)
  | succ w => exact va_alen (D := gD (xG X)) (tys := gT (xG X)) C.1 C.2.1 C.pe.1 hH.1 j 3 hj rfl rfl hd (kk H locs ls hH hS hl)
theorem V_iast (C : Ok X cc Ts own ret fr nL) {a m : Nat} {i v : Int} (hd : decode cc pc = .ok (.iastore, 1)) (hx : hasS S a (.inl (0, m))) (hm : m < 2147483648) (hi : 0 ≤ i ∧ i < m)
    (kk : V X (pc + 1) r st S n (up mu a i v) la k sl) : V X pc r (.int (I32 v) :: .int (I32 i) :: .ref a :: st) S n mu la k sl := by
  intro H locs ls hH hS hl
  obtain ⟨j, hj, hat⟩ := hH.obj hx
  refine W.iast C.1 C.2.1 hat ((C.pe.1.2 0 _ rfl).1 m (fun j => .int (I32 (mu a j)))) (fun q => by cases q) (by show ¬ (I32 i < 0 ∨ (arrV _ _ _).slots.size ≤ _); rw [arrV_size]; exact I32_in hi hm) rfl rfl hd fun H1 e z oq => ?_
  refine kk H1 _ ls (hH.put hx ?_ z oq (fun b j hb => up_a mu _ _ _ hb) (fun _ _ _ => rfl)) (hS.put z oq (hH.2.1.2 j _ hj)) hl
  show H1[a]? = some (vp_cell _ _)
  rw [e]
  show some ((vp_cell _ (m, .inl fun j => I32 (mu a j))).setSlot _ _) = some (vp_cell _ (m, .inl fun j => I32 (up mu a i v a j)))
  rw [vp_cell_i, vp_cell_i, arrV_store, I32_clamp (by omega)]
  congr 2
  funext q
  by_cases hq : q = i.toNat
  · subst hq
    simp [updV, up, Int.toNat_of_nonneg hi.1]
  · have : ¬ ((q : Int) = i) := by omega
    simp [updV, up, hq, this]
end VM3
/-! CONTRACTS. Ct: from every state that holds (S, n, mu, la), called with av, y returns, and its answer and the state behind it are as Po says; fr frames and 30 * fr words suffice, mc cells of ms slots are new. -/
def Pm (G : Gx) (av : List Value) (S : Sh) (n : Nat) (mu : Mem) (la : Lam) : Array Value → State → Prop := fun v U => v = av.toArray ∧ PE G U ∧ Hr G S n mu la U.heap
def Qm (G : Gx) (Po : Option Value → Sh → Nat → Mem → Lam → Prop) : Array Value → State → Outcome → State → Prop := fun _ st oc t =>
  (∃ (o : Option Value) (S : Sh) (n : Nat) (mu : Mem) (la : Lam), oc = .returned o ∧ Po o S n mu la ∧ Hr G S n mu la t.heap) ∧ va_F (gA G) st t
def rmOf (fr mc ms : Nat) : Room := { frames := fr, cells := mc, slots := ms, locals := 30 * fr }
def Ct (G : Gx) (l : Launch) (y : MethodName) (ws : List Cond) (fr mc ms : Nat) (av : List Value) (S : Sh) (n : Nat) (mu : Mem) (la : Lam) (Po : Option Value → Sh → Nat → Mem → Lam → Prop) : Prop :=
  Met l y ws (rmOf fr mc ms) (Pm G av S n mu la) (Qm G Po) mc ms (gA G)
/-- the goal of a body that owes Po -/
def En (X : Cx) (mc ms : Nat) (Po : Option Value → Sh → Nat → Mem → Lam → Prop) : Prop := xQ X = MQ (xB X) (Qm (xG X) Po) (xA X) (xS X) mc ms (gA (xG X))
theorem Pm_blind {G : Gx} (hG : GP G) {av : List Value} {S : Sh} {n : Nat} {mu : Mem} {la : Lam} : FrameBlind (Pm G av S n mu la) :=
  fun a U g mk h => ⟨h.1, h.2.1.call hG g mk a, h.2.2⟩
theorem Ct.ofV {G : Gx} {l : Launch} {y : MethodName} {ws ws' : List Cond} {fr mc ms nL : Nat} {av : List Value} {S : Sh} {n : Nat} {mu : Mem} {la : Lam} {Po : Option Value → Sh → Nat → Mem → Lam → Prop} {cc : ByteArray} {ret : Option FieldType} (r : Rg)
    (hG : GP G) (hy : plainName y.cls = true) (hw : ws = Cond.code y cc nL ret :: ws') (hle : (lg_sl av).length ≤ nL) (hr : rOf 0 r = lv_args 0 av)
    (body : ∀ X : Cx, xG X = G → xL X = l → Ok X cc ws y.cls ret fr nL → (xR X).cells = mc → (xR X).slots = ms → En X mc ms Po → V X 0 r [] S n mu la 0 0) : Ct G l y ws fr mc ms av S n mu la Po := by
  refine Met.ofW (cc := cc) (maxL := nL) (ret := ret) hy hw ?_
  intro p e s m args below meth c s₁ B hml hv
  obtain ⟨rfl, hpe, hH⟩ := hv
  have hts := atoms_spec (ws := ws) B.pre
  have hown : s.vm.findClass y.cls = some m.cls := findClass_of_methodNamed B.named
  have hl := lv_entry av (n := nL) hle
  rw [lg_entry_eq]
  generalize (lg_sl av ++ List.replicate (nL - (lg_sl av).length) Slot.unset).toArray = ls at hl ⊢
  rw [← hr] at hl
  exact body (p, l, e, (headSpec ws (rmOf fr mc ms)).room, s, m, av.toArray, below, meth, c, MQ below (Qm G Po) av.toArray s mc ms (gA G), nL, G) rfl rfl
    ⟨B.exec, B.bytes, hml, rfl, hown, hts, B.returns, B.notSynchronized, hpe, Nat.le_trans hH.2.2.2 (Nat.le_of_eq hH.2.2.1.symm), hG, rfl, rfl⟩ rfl rfl rfl s.heap [] ls hH va_S.rf hl
section VE
variable {X : Cx} {cc : ByteArray} {Ts : List Cond} {own : String} {ret : Option FieldType} {fr nL : Nat} {pc : Nat} {r : Rg} {st : List Value} {S : Sh} {n : Nat} {mu : Mem} {la : Lam} {k sl mc ms : Nat} {Po : Option Value → Sh → Nat → Mem → Lam → Prop}
theorem Qm_of {G : Gx} {args : Array Value} {s t : State} {o : Option Value} {H : Heap} {locs : List Loc} (hp : Po o S n mu la) (hH : Hr G S n mu la H) (hS : va_S (gA G) s.heap H locs) (ht : t.heap = H) : Qm G Po args s (.returned o) t :=
  ⟨⟨o, S, n, mu, la, rfl, hp, by rw [ht]; exact hH⟩, hS.F ht⟩
theorem V_widen {mc ms : Nat} (h1 : k ≤ mc) (h2 : sl ≤ ms) (kk : V X pc r st S n mu la mc ms) : V X pc r st S n mu la k sl := fun H locs ls hH hS hl => W.widen h1 h2 (kk H locs ls hH hS hl)
theorem V_ireturn (C : Ok X cc Ts own (some .int) fr nL) (E : En X mc ms Po) {v : Int32} (hd : decode cc pc = .ok (.ireturn, 1)) (h1 : k ≤ mc) (h2 : sl ≤ ms) (hp : Po (some (.int v)) S n mu la) : V X pc r [.int v] S n mu la k sl := by
  refine V_widen h1 h2 fun H locs ls hH hS hl => ?_
  rw [E]
  exact W.iret (v := v) C.1 C.2.1 C.ret (fun t ht _ => Qm_of hp hH hS ht) hS.2.2 hd C.locks
theorem V_zreturn (C : Ok X cc Ts own (some .boolean) fr nL) (E : En X mc ms Po) {v : Int32} (hv : v = 0 ∨ v = 1) (hd : decode cc pc = .ok (.ireturn, 1)) (h1 : k ≤ mc) (h2 : sl ≤ ms) (hp : Po (some (.int v)) S n mu la) : V X pc r [.int v] S n mu la k sl := by
  refine V_widen h1 h2 fun H locs ls hH hS hl => ?_
  rw [E]
  exact W.zret (v := v) (ty := .boolean) C.1 C.2.1 C.ret (by rcases hv with rfl | rfl <;> rfl) (fun t ht _ => Qm_of hp hH hS ht) hS.2.2 hd C.locks
theorem V_lreturn (C : Ok X cc Ts own (some .long) fr nL) (E : En X mc ms Po) {v : Int64} (hd : decode cc pc = .ok (.lreturn, 1)) (h1 : k ≤ mc) (h2 : sl ≤ ms) (hp : Po (some (.long v)) S n mu la) : V X pc r [.long v] S n mu la k sl := by
  refine V_widen h1 h2 fun H locs ls hH hS hl => ?_
  rw [E]
  exact W.lret (v := v) C.1 C.2.1 C.ret (fun t ht _ => Qm_of hp hH hS ht) hS.2.2 hd C.locks
theorem V_return (C : Ok X cc Ts own none fr nL) (E : En X mc ms Po) (hd : decode cc pc = .ok (.return_, 1)) (h1 : k ≤ mc) (h2 : sl ≤ ms) (hp : Po none S n mu la) : V X pc r [] S n mu la k sl := by
  refine V_widen h1 h2 fun H locs ls hH hS hl => ?_
  rw [E]
  exact W.vret C.1 C.2.1 C.ret (fun t ht _ => Qm_of hp hH hS ht) hS.2.2 hd C.locks
theorem V_areturn {rt : FieldType} (C : Ok X cc Ts own (some rt) fr nL) (hrt : (∃ n, rt = .object n) ∨ ∃ t, rt = .array t) (E : En X mc ms Po) {v : Value} (hv : v = .null ∨ ∃ a, v = .ref a) (hd : decode cc pc = .ok (.areturn, 1)) (h1 : k ≤ mc) (h2 : sl ≤ ms) (hp : Po (some v) S n mu la) : V X pc r [v] S n mu la k sl := by
  refine V_widen h1 h2 fun H locs ls hH hS hl => ?_
  rw [E]
  exact W.aret (v := v) C.1 C.2.1 C.ret hrt hv (fun t ht _ => Qm_of hp hH hS ht) hS.2.2 hd C.locks
/-- a call's arguments on the stack -/
def psh : List Value → List Value → List Value
  | [], r => r
  | a :: as, r => psh as (a :: r)
theorem psh_eq : ∀ (as r : List Value), psh as r = as.reverse ++ r
  | [], r => rfl
  | a :: as, r => by rw [psh, psh_eq as (a :: r)]; simp
/-- behind any call: the callee's state is the caller's -/
theorem V_ran (C : Ok X cc Ts own ret fr nL) {rest st0 : List Value} {mcc msc : Nat} {Pc : Option Value → Sh → Nat → Mem → Lam → Prop} {H : Heap} {locs : List Loc} {ls : Array Slot} {a : Array Value}
    (hr : va_Run (xP X) (xL X) (xE X) (xR X) (xS X) (xM X) (xA X) (xB X) (xT X) (xC X) H locs k sl mcc msc (F0 (xM X) pc ls st0) rest (Qm (xG X) Pc a) (gA (xG X))) (hS : va_S (gA (xG X)) (xS X).heap H locs) (hl : lv_has ls (xN X) (rOf 0 r))
    (kk : ∀ (o : Option Value) (S' : Sh) (n' : Nat) (mu' : Mem) (la' : Lam), Pc o S' n' mu' la' → V X (pc + 3) r (o.toList ++ rest) S' n' mu' la' (k + mcc) (sl + msc)) :
    W (xP X) (xL X) (xE X) (xR X) (xS X) (xM X) (xA X) (xB X) (xT X) (xC X) H locs k sl (xQ X) (F0 (xM X) pc ls st0) := by
  intro T hT XX
  obtain ⟨v, st₀, t, T', L, h0, X', hL, e1, e2, ⟨⟨o, S', n', mu', la', ho, hp, hH'⟩, hz, hq⟩, stp⟩ := hr T hT XX
  cases ho
  rw [h0] at hz hq
  rw [← e1] at hH'
  obtain ⟨t2, a1, b1⟩ := kk v S' n' mu' la' hp T'.heap (locs ++ L) ls hH' ⟨Nat.le_trans hS.1 (by rw [e1]; exact hz), fun q h1 h2 => by rw [e1, hq q (Nat.lt_of_lt_of_le h1 hS.1) h2]; exact hS.2.1 q h1 h2, fun q hq9 => by
      rcases List.mem_append.mp hq9 with h | h
      · exact hS.2.2 q h
      · exact hL q h⟩ hl T' rfl X'
  exact ⟨t2, stp t2 a1, b1⟩
theorem V_pre (C : Ok X cc Ts own ret fr nL) {H : Heap} {locs : List Loc} (hH : Hr (xG X) S n mu la H) (hS : va_S (gA (xG X)) (xS X).heap H locs) (av : List Value) : ∀ U : State, U.heap = H → (xS X).WarmedH U.vm → Pm (xG X) av S n mu la av.toArray U :=
  fun U hU hW => ⟨rfl, C.pe.moved C.gp hW (by rw [hU]; exact hS.1) (fun q h1 h2 => by rw [hU]; exact hS.2.1 q h1 h2), by rw [hU]; exact hH⟩
theorem cat_le {g : Nat} {rest : List Value} (h : (rest.map fun v => v.category).sum ≤ 8) {ls : Array Slot} {st0 : List Value} {m : MethodId} : 2 * (F0 m g ls st0).monitorRoom + (rest.map fun v => v.category).sum ≤ 8 := lv_room h
theorem V_callV (C : Ok X cc Ts own ret fr nL) {index ci nA maxL fc mcc msc b : Nat} {Cn : String} {y : MethodName} {ws ws' : List Cond} {bytes : ByteArray} {rt : Option FieldType} {As rest : List Value} {ks : List Sk} {T : u_T} {N : Nat} {Pc : Option Value → Sh → Nat → Mem → Lam → Prop}
    (hd : decode cc pc = .ok (.invokevirtual index, 3)) (hM : Ct (xG X) (xL X) y ws fc mcc msc (.ref b :: As) S n mu la Pc) (hG : GoodIn Ts (wsV own index Cn y ws)) (hw : ws = Cond.code y bytes maxL rt :: ws')
    (hx : hasS S b (.inr (.inr (ci, ks)))) (hc : vwCl[ci]? = some (Cn, T, N)) (hy : y.cls = Cn ∧ y.cls ≠ "java/lang/invoke/MethodHandle" ∧ y.cls ≠ "java/lang/invoke/VarHandle" ∧ (parseMethodDescriptor y.desc).map (fun d => d.parameters.length) = some nA)
    (hn : As.length = nA) (hfr : fc + 1 ≤ fr) (hml : maxL ≤ 11) (hcat : (rest.map fun v => v.category).sum ≤ 8) (hf : k + mcc ≤ (xR X).cells ∧ sl + msc ≤ (xR X).slots) {st0 : List Value} (hst : st0 = psh (.ref b :: As) rest)
    (kk : ∀ (o : Option Value) (S' : Sh) (n' : Nat) (mu' : Mem) (la' : Lam), Pc o S' n' mu' la' → V X (pc + 3) r (o.toList ++ rest) S' n' mu' la' (k + mcc) (sl + msc)) : V X pc r st0 S n mu la k sl := by
  intro H locs ls hH hS hl
  obtain ⟨j, hj, -⟩ := hH.obj hx
  refine V_ran C (va_runV ⟨C.1, C.2.1, C.2.2.1, C.own, C.ts⟩ hM (cwV nA C.ts hG hw rfl rfl hy ⟨by rw [C.frames]; exact hfr, by rw [C.regs]; show 8 + (maxL + 11) + 30 * fc ≤ _; omega⟩)
    ⟨Pm_blind C.gp, va_recv (q := (Cn, T, N)) C.pe.1 hH.1 hc hj, V_pre C hH hS (.ref b :: As)⟩ rfl hn hl.1 (by rw [hst, psh_eq]; simp) (cat_le hcat) hd hf) hS hl kk
theorem V_callVN (C : Ok X cc Ts own ret fr nL) {index ci nA maxL fc mcc msc b : Nat} {Cn host : String} {y : MethodName} {ws ws' : List Cond} {bytes : ByteArray} {rt : Option FieldType} {As rest : List Value} {ks : List Sk} {T : u_T} {N : Nat} {Pc : Option Value → Sh → Nat → Mem → Lam → Prop}
    (hd : decode cc pc = .ok (.invokevirtual index, 3)) (hM : Ct (xG X) (xL X) y ws fc mcc msc (.ref b :: As) S n mu la Pc) (hG : GoodIn Ts ws) (hnw : Cond.methodLinkNest own index y host ∈ nW) (hini : Cond.initialized y.cls ∈ Ts) (hins : Cond.instanceMethod y ∈ Ts) (hsel : Cond.selects Cn y y ∈ Ts) (hw : ws = Cond.code y bytes maxL rt :: ws')
    (hx : hasS S b (.inr (.inr (ci, ks)))) (hc : vwCl[ci]? = some (Cn, T, N)) (hy : y.cls ≠ "java/lang/invoke/MethodHandle" ∧ y.cls ≠ "java/lang/invoke/VarHandle" ∧ (parseMethodDescriptor y.desc).map (fun d => d.parameters.length) = some nA)
    (hn : As.length = nA) (hfr : fc + 1 ≤ fr) (hml : maxL ≤ 11) (hcat : (rest.map fun v => v.category).sum ≤ 8) (hf : k + mcc ≤ (xR X).cells ∧ sl + msc ≤ (xR X).slots) {st0 : List Value} (hst : st0 = psh (.ref b :: As) rest)
    (kk : ∀ (o : Option Value) (S' : Sh) (n' : Nat) (mu' : Mem) (la' : Lam), Pc o S' n' mu' la' → V X (pc + 3) r (o.toList ++ rest) S' n' mu' la' (k + mcc) (sl + msc)) : V X pc r st0 S n mu la k sl := by
  intro H locs ls hH hS hl
  obtain ⟨j, hj, -⟩ := hH.obj hx
  refine V_ran C (va_runVN ⟨C.1, C.2.1, C.2.2.1, C.own, C.ts⟩ hM ⟨va_cnB nA C.ts hG hw rfl rfl (C.pe.2.1 _ hnw) (C.ts _ hini) hy ⟨by rw [C.frames]; exact hfr, by rw [C.regs]; show 8 + (maxL + 11) + 30 * fc ≤ _; omega⟩, C.ts _ hins, C.ts _ hsel⟩
    ⟨Pm_blind C.gp, va_recv (q := (Cn, T, N)) C.pe.1 hH.1 hc hj, V_pre C hH hS (.ref b :: As)⟩ rfl hn hl.1 (by rw [hst, psh_eq]; simp) (cat_le hcat) hd hf) hS hl kk
theorem V_callS (C : Ok X cc Ts own ret fr nL) {index nA maxL fc mcc msc : Nat} {y : MethodName} {ws ws' : List Cond} {bytes : ByteArray} {rt : Option FieldType} {As rest : List Value} {Pc : Option Value → Sh → Nat → Mem → Lam → Prop}
    (hd : decode cc pc = .ok (.invokestatic index, 3)) (hM : Ct (xG X) (xL X) y ws fc mcc msc As S n mu la Pc) (hG : GoodIn Ts (va_wsS own index y ws)) (hw : ws = Cond.code y bytes maxL rt :: ws')
    (hy : y.cls ≠ "java/lang/invoke/MethodHandle" ∧ y.cls ≠ "java/lang/invoke/VarHandle" ∧ (parseMethodDescriptor y.desc).map (fun d => d.parameters.length) = some nA)
    (hn : As.length = nA) (hfr : fc + 1 ≤ fr) (hml : maxL ≤ 11) (hcat : (rest.map fun v => v.category).sum ≤ 8) (hf : k + mcc ≤ (xR X).cells ∧ sl + msc ≤ (xR X).slots) {st0 : List Value} (hst : st0 = psh As rest)
    (kk : ∀ (o : Option Value) (S' : Sh) (n' : Nat) (mu' : Mem) (la' : Lam), Pc o S' n' mu' la' → V X (pc + 3) r (o.toList ++ rest) S' n' mu' la' (k + mcc) (sl + msc)) : V X pc r st0 S n mu la k sl := by
  intro H locs ls hH hS hl
  refine V_ran C (va_runS ⟨C.1, C.2.1, C.2.2.1, C.own, C.ts⟩ hM (va_cwS nA C.ts hG hw rfl rfl hy ⟨by rw [C.frames]; exact hfr, by rw [C.regs]; show 8 + (maxL + 11) + 30 * fc ≤ _; omega⟩)
    ⟨Pm_blind C.gp, V_pre C hH hS As⟩ rfl hn hl.1 (by rw [hst, psh_eq]) (cat_le hcat) hd hf) hS hl kk
theorem V_callSN (C : Ok X cc Ts own ret fr nL) {index nA maxL fc mcc msc : Nat} {host : String} {y : MethodName} {ws ws' : List Cond} {bytes : ByteArray} {rt : Option FieldType} {As rest : List Value} {Pc : Option Value → Sh → Nat → Mem → Lam → Prop}
    (hd : decode cc pc = .ok (.invokestatic index, 3)) (hM : Ct (xG X) (xL X) y ws fc mcc msc As S n mu la Pc) (hG : GoodIn Ts ws) (hnw : Cond.methodLinkNest own index y host ∈ nW) (hini : Cond.initialized y.cls ∈ Ts) (hsta : Cond.static y ∈ Ts) (hw : ws = Cond.code y bytes maxL rt :: ws')
    (hy : y.cls ≠ "java/lang/invoke/MethodHandle" ∧ y.cls ≠ "java/lang/invoke/VarHandle" ∧ (parseMethodDescriptor y.desc).map (fun d => d.parameters.length) = some nA)
    (hn : As.length = nA) (hfr : fc + 1 ≤ fr) (hml : maxL ≤ 11) (hcat : (rest.map fun v => v.category).sum ≤ 8) (hf : k + mcc ≤ (xR X).cells ∧ sl + msc ≤ (xR X).slots) {st0 : List Value} (hst : st0 = psh As rest)
    (kk : ∀ (o : Option Value) (S' : Sh) (n' : Nat) (mu' : Mem) (la' : Lam), Pc o S' n' mu' la' → V X (pc + 3) r (o.toList ++ rest) S' n' mu' la' (k + mcc) (sl + msc)) : V X pc r st0 S n mu la k sl := by
  intro H locs ls hH hS hl
  refine V_ran C (va_runSN ⟨C.1, C.2.1, C.2.2.1, C.own, C.ts⟩ hM ⟨va_cnB nA C.ts hG hw rfl rfl (C.pe.2.1 _ hnw) (C.ts _ hini) hy ⟨by rw [C.frames]; exact hfr, by rw [C.regs]; show 8 + (maxL + 11) + 30 * fc ≤ _; omega⟩, C.ts _ hsta, trivial⟩
    ⟨Pm_blind C.gp, V_pre C hH hS As⟩ rfl hn hl.1 (by rw [hst, psh_eq]) (cat_le hcat) hd hf) hS hl kk
end VE
/-- one answer, one state behind -/
def Dt (o : Option Value) (S : Sh) (n : Nat) (mu : Mem) (la : Lam) : Option Value → Sh → Nat → Mem → Lam → Prop := fun o' S' n' mu' la' => o' = o ∧ S' = S ∧ n' = n ∧ mu' = mu ∧ la' = la
theorem Dt_rfl {o : Option Value} {S : Sh} {n : Nat} {mu : Mem} {la : Lam} : Dt o S n mu la o S n mu la := ⟨rfl, rfl, rfl, rfl, rfl⟩
def oc : Option Value → List Value → List Value
  | none, r => r
  | some v, r => v :: r
section VD
variable {X : Cx} {cc : ByteArray} {Ts : List Cond} {own : String} {ret : Option FieldType} {fr nL : Nat} {pc : Nat} {r : Rg} {st : List Value} {S S' : Sh} {n n' : Nat} {mu mu' : Mem} {la la' : Lam} {k sl : Nat} {o : Option Value}
theorem V_toD {rest : List Value} (kk : V X (pc + 3) r (oc o rest) S' n' mu' la' k sl) : ∀ (o1 : Option Value) (S1 : Sh) (n1 : Nat) (mu1 : Mem) (la1 : Lam), Dt o S' n' mu' la' o1 S1 n1 mu1 la1 → V X (pc + 3) r (o1.toList ++ rest) S1 n1 mu1 la1 (k + 0) (sl + 0) := by
  rintro o1 _ _ _ _ ⟨rfl, rfl, rfl, rfl, rfl⟩
  cases o1 <;> exact kk
theorem V_callVD (C : Ok X cc Ts own ret fr nL) {index ci nA maxL fc b : Nat} {Cn : String} {y : MethodName} {ws ws' : List Cond} {bytes : ByteArray} {rt : Option FieldType} {As rest : List Value} {ks : List Sk} {T : u_T} {N : Nat}
    (hd : decode cc pc = .ok (.invokevirtual index, 3)) (hM : Ct (xG X) (xL X) y ws fc 0 0 (.ref b :: As) S n mu la (Dt o S' n' mu' la')) (hG : GoodIn Ts (wsV own index Cn y ws)) (hw : ws = Cond.code y bytes maxL rt :: ws')
    (hx : hasS S b (.inr (.inr (ci, ks)))) (hc : vwCl[ci]? = some (Cn, T, N)) (hy : y.cls = Cn ∧ y.cls ≠ "java/lang/invoke/MethodHandle" ∧ y.cls ≠ "java/lang/invoke/VarHandle" ∧ (parseMethodDescriptor y.desc).map (fun d => d.parameters.length) = some nA)
    (hn : As.length = nA) (hfr : fc + 1 ≤ fr) (hml : maxL ≤ 11) (hcat : (rest.map fun v => v.category).sum ≤ 8) (hf : k ≤ (xR X).cells ∧ sl ≤ (xR X).slots) {st0 : List Value} (hst : st0 = psh (.ref b :: As) rest)
    (kk : V X (pc + 3) r (oc o rest) S' n' mu' la' k sl) : V X pc r st0 S n mu la k sl := V_callV C hd hM hG hw hx hc hy hn hfr hml hcat hf hst (V_toD kk)
theorem V_callVND (C : Ok X cc Ts own ret fr nL) {index ci nA maxL fc b : Nat} {Cn host : String} {y : MethodName} {ws ws' : List Cond} {bytes : ByteArray} {rt : Option FieldType} {As rest : List Value} {ks : List Sk} {T : u_T} {N : Nat}
    (hd : decode cc pc = .ok (.invokevirtual index, 3)) (hM : Ct (xG X) (xL X) y ws fc 0 0 (.ref b :: As) S n mu la (Dt o S' n' mu' la')) (hG : GoodIn Ts ws) (hnw : Cond.methodLinkNest own index y host ∈ nW) (hini : Cond.initialized y.cls ∈ Ts) (hins : Cond.instanceMethod y ∈ Ts) (hsel : Cond.selects Cn y y ∈ Ts) (hw : ws = Cond.code y bytes maxL rt :: ws')
    (hx : hasS S b (.inr (.inr (ci, ks)))) (hc : vwCl[ci]? = some (Cn, T, N)) (hy : y.cls ≠ "java/lang/invoke/MethodHandle" ∧ y.cls ≠ "java/lang/invoke/VarHandle" ∧ (parseMethodDescriptor y.desc).map (fun d => d.parameters.length) = some nA)
    (hn : As.length = nA) (hfr : fc + 1 ≤ fr) (hml : maxL ≤ 11) (hcat : (rest.map fun v => v.category).sum ≤ 8) (hf : k ≤ (xR X).cells ∧ sl ≤ (xR X).slots) {st0 : List Value} (hst : st0 = psh (.ref b :: As) rest)
    (kk : V X (pc + 3) r (oc o rest) S' n' mu' la' k sl) : V X pc r st0 S n mu la k sl := V_callVN C hd hM hG hnw hini hins hsel hw hx hc hy hn hfr hml hcat hf hst (V_toD kk)
theorem V_callSD (C : Ok X cc Ts own ret fr nL) {index nA maxL fc : Nat} {y : MethodName} {ws ws' : List Cond} {bytes : ByteArray} {rt : Option FieldType} {As rest : List Value}
    (hd : decode cc pc = .ok (.invokestatic index, 3)) (hM : Ct (xG X) (xL X) y ws fc 0 0 As S n mu la (Dt o S' n' mu' la')) (hG : GoodIn Ts (va_wsS own index y ws)) (hw : ws = Cond.code y bytes maxL rt :: ws')
    (hy : y.cls ≠ "java/lang/invoke/MethodHandle" ∧ y.cls ≠ "java/lang/invoke/VarHandle" ∧ (parseMethodDescriptor y.desc).map (fun d => d.parameters.length) = some nA)
    (hn : As.length = nA) (hfr : fc + 1 ≤ fr) (hml : maxL ≤ 11) (hcat : (rest.map fun v => v.category).sum ≤ 8) (hf : k ≤ (xR X).cells ∧ sl ≤ (xR X).slots) {st0 : List Value} (hst : st0 = psh As rest)
    (kk : V X (pc + 3) r (oc o rest) S' n' mu' la' k sl) : V X pc r st0 S n mu la k sl := V_callS C hd hM hG hw hy hn hfr hml hcat hf hst (V_toD kk)
theorem V_callSND (C : Ok X cc Ts own ret fr nL) {index nA maxL fc : Nat} {host : String} {y : MethodName} {ws ws' : List Cond} {bytes : ByteArray} {rt : Option FieldType} {As rest : List Value}
    (hd : decode cc pc = .ok (.invokestatic index, 3)) (hM : Ct (xG X) (xL X) y ws fc 0 0 As S n mu la (Dt o S' n' mu' la')) (hG : GoodIn Ts ws) (hnw : Cond.methodLinkNest own index y host ∈ nW) (hini : Cond.initialized y.cls ∈ Ts) (hsta : Cond.static y ∈ Ts) (hw : ws = Cond.code y bytes maxL rt :: ws')
    (hy : y.cls ≠ "java/lang/invoke/MethodHandle" ∧ y.cls ≠ "java/lang/invoke/VarHandle" ∧ (parseMethodDescriptor y.desc).map (fun d => d.parameters.length) = some nA)
    (hn : As.length = nA) (hfr : fc + 1 ≤ fr) (hml : maxL ≤ 11) (hcat : (rest.map fun v => v.category).sum ≤ 8) (hf : k ≤ (xR X).cells ∧ sl ≤ (xR X).slots) {st0 : List Value} (hst : st0 = psh As rest)
    (kk : V X (pc + 3) r (oc o rest) S' n' mu' la' k sl) : V X pc r st0 S n mu la k sl := V_callSN C hd hM hG hnw hini hsta hw hy hn hfr hml hcat hf hst (V_toD kk)
end VD
