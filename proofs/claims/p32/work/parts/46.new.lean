/-! NEW CELLS: a new cell has address n; its ints and longs are 0 -/
def zm (mu : Mem) (n : Nat) : Mem := fun b j => if b = n then 0 else mu b j
def zl (la : Lam) (n : Nat) : Lam := fun b j => if b = n then 0 else la b j
theorem zm_s (mu : Mem) (n : Nat) (j : Int) : zm mu n n j = 0 := by simp [zm]
theorem zm_a (mu : Mem) {n b : Nat} (j : Int) (h : b ≠ n) : zm mu n b j = mu b j := by simp [zm, h]
theorem zl_s (la : Lam) (n j : Nat) : zl la n n j = 0 := by simp [zl]
theorem zl_a (la : Lam) {n b : Nat} (j : Nat) (h : b ≠ n) : zl la n b j = la b j := by simp [zl, h]
theorem Hr.lt {G : Gx} {S : Sh} {n : Nat} {mu : Mem} {la : Lam} {H : Heap} (h : Hr G S n mu la H) {a : Nat} (ha : a ∈ S.1) : a < n := by
  obtain ⟨j, hj, -⟩ := h.obj (x := S.2 a) ⟨ha, rfl⟩
  have := (h.1 j _ hj).lt
  have e := h.2.2.1
  omega
theorem Hr.push {G : Gx} {S : Sh} {n : Nat} {mu : Mem} {la : Lam} {H H1 : Heap} (h : Hr G S n mu la H) {x : Shp} (hat : va_at (gD G) vwCl (n, ins G (zm mu n) (zl la n) n x) H1) (hz : H1.size = n + 1) (oq : ∀ q : Nat, q < n → H1[q]? = H[q]?) :
    Hr G (grow S n x) (n + 1) (zm mu n) (zl la n) H1 := by
  have hlt := fun a ha => h.lt (a := a) ha
  obtain ⟨hP, hD, hn, hg⟩ := h
  have hni : n ∉ S.1 := fun q => Nat.lt_irrefl _ (hlt n q)
  have e : wl G S (zm mu n) (zl la n) = wl G S mu la := by
    show List.map _ _ = List.map _ _
    refine List.map_congr_left fun a ha => ?_
    have hne : a ≠ n := Nat.ne_of_lt (hlt a ha)
    show (a, ins G (zm mu n) (zl la n) a (S.2 a)) = (a, ins G mu la a (S.2 a))
    rw [ins_off G (S.2 a) (fun i => zm_a mu i hne) (fun i => zl_a la i hne)]
  rw [Hr, ← wl_push hni, e]
  refine ⟨(hP.kept fun k q hq => oq q.1 ?_).app (fun k q hq => ?_), hD.push hP hn.symm hg, hz, Nat.le_succ_of_le hg⟩
  · have := (hP k q hq).lt
    omega
  · have hz : k < 1 := (List.getElem?_eq_some_iff.mp hq).1
    rw [show k = 0 by omega] at hq
    cases hq
    exact hat
theorem va_S.push {A : Nat → Prop} {H0 H H1 : Heap} {locs : List Loc} (hS : va_S A H0 H locs) (hz : H1.size = H.size + 1) (oq : ∀ q : Nat, q < H.size → H1[q]? = H[q]?) : va_S A H0 H1 locs :=
  ⟨Nat.le_trans hS.1 (by omega), fun x h1 h2 => (oq x (Nat.lt_of_lt_of_le h1 hS.1)).trans (hS.2.1 x h1 h2), hS.2.2⟩
/-- a slot of a new object -/
def oks : Sk → FieldType → Bool
  | .inr 0, .int => true
  | .inr 1, .long => true
  | .inr (_ + 2), .object _ => true
  | .inl .null, .object _ => true
  | .inl .null, .array _ => true
  | _, _ => false
theorem oks_v (G : Gx) (mu : Mem) (la : Lam) (n j : Nat) {x : Sk} {t : FieldType} (h : oks x t = true) : sV G (zm mu n) (zl la n) n j x = defaultValue t := by
  unfold oks at h
  split at h
  · show Value.int (I32 (zm mu n n j)) = _; rw [zm_s]; rfl
  · show Value.long (zl la n n j) = _; rw [zl_s]; rfl
  · show eRef G (zm mu n n j) = _; rw [zm_s]; rfl
  · rfl
  · rfl
  · cases h
theorem hasS_reM {S : Sh} {a : Nat} {x' : Shp} (h : a ∈ S.1) : hasS (reS S a x') a x' := ⟨h, va_up_self _ _ _⟩
theorem memG {S : Sh} {a b : Nat} {x : Shp} (h : b ∈ S.1) : b ∈ (grow S a x).1 := List.mem_append_left _ h
theorem memR {S : Sh} {a b : Nat} {x : Shp} (h : b ∈ S.1) : b ∈ (reS S a x).1 := h
section VNW
variable {X : Cx} {cc : ByteArray} {Ts : List Cond} {own : String} {ret : Option FieldType} {fr nL : Nat} {pc : Nat} {r : Rg} {st : List Value} {S : Sh} {n : Nat} {mu : Mem} {la : Lam} {k sl : Nat}
theorem V_newa (C : Ok X cc Ts own ret fr nL) {m : Int} (N : Nat) (hd : decode cc pc = .ok (.newarray .int, 2)) (harr : Cond.arrayClass .int ∈ Ts) (hm : m = (N : Int)) (hN : N ≤ 100000) (hf : k + 1 ≤ (xR X).cells ∧ sl + N ≤ (xR X).slots)
    (kk : V X (pc + 2) r (.ref n :: st) (grow S n (.inl (0, N))) (n + 1) (zm mu n) (zl la n) (k + 1) (sl + N)) : V X pc r (.int (I32 m) :: st) S n mu la k sl := by
  intro H locs ls hH hS hl
  have hn := hH.2.2.1
  subst hm
  refine va_newaK (atype := .int) (g := F0 (xM X) pc ls (.int (I32 N) :: st)) (N := N) C.1 C.2.1 (C.ts _ harr) rfl hd rfl (by rw [I32_0, I32_lt (by omega) (by omega)]; omega) (by rw [I32_clamp (by omega)]; omega) (by show N * 4 ≤ _; omega) hf.1 hf.2 hn fun H1 cA e1 z1 o1 hAr hNm => ?_
  have hA := (C.pe.1.2 0 _ rfl).2
  have hc : cA = (xG X).2.1.1 := Option.some.inj (hNm.symm.trans hA)
  subst hc
  refine kk H1 _ ls (hH.push ?_ z1 o1) (hS.push (by omega) (fun q hq => o1 q (by omega))) hl
  show H1[n]? = some (vp_cell _ _)
  rw [e1, vp_cell_i]
  congr 2
  funext j
  show Value.int 0 = Value.int (I32 (zm mu n n j))
  rw [zm_s]; rfl
theorem V_newo (C : Ok X cc Ts own ret fr nL) {ci index N : Nat} {Cn : String} {T : u_T} {ks : List Sk} (hd : decode cc pc = .ok (.new index, 3)) (hc : vwCl[ci]? = some (Cn, T, N)) (hin : ∀ w ∈ u_ws Cn T N, w ∈ Ts) (ty : Nat → FieldType) (hty : ∀ k, k < N → parseFieldDescriptor (T k).2.2.1 = some (ty k))
    (hcl : Cond.classLink own index Cn ∈ Ts) (hinst : Cond.instantiable Cn N ∈ Ts) (hini : Cond.initialized Cn ∈ Ts) (hks : (List.range N).all (fun j => match ks[j]? with | some x => oks x (ty j) | none => false) = true) (hf : k + 1 ≤ (xR X).cells ∧ sl + N ≤ (xR X).slots)
    (kk : V X (pc + 3) r (.ref n :: st) (grow S n (.inr (.inr (ci, ks)))) (n + 1) (zm mu n) (zl la n) (k + 1) (sl + N)) : V X pc r st S n mu la k sl := by
  intro H locs ls hH hS hl
  have hn := hH.2.2.1
  have hKn := C.pe.1.1 ci _ hc
  refine W.newcK (g := F0 (xM X) pc ls st) C.1 C.2.1 C.own (C.ts _ hcl) (C.ts _ hinst) (C.ts _ hini) rfl hd hf.1 hf.2 hKn.2.1 hn fun H1 kC hkC e1 z1 o1 => ?_
  refine kk H1 _ ls (hH.push ?_ z1 o1) (hS.push (by omega) (fun q hq => o1 q (by omega))) hl
  refine ⟨_, hc, (u_born ty C.ts hin hKn hkC e1 hty).to fun j hj => ?_⟩
  have h9 := List.all_eq_true.mp hks j (List.mem_range.mpr hj)
  show defaultValue (ty j) = (oV (xG X) (zm mu n) (zl la n) n 0 _).getD j .null
  rw [List.getD_eq_getElem?_getD, oV_get]
  cases hx9 : ks[j]? with
  | none => rw [hx9] at h9; cases h9
  | some x =>
    rw [hx9] at h9
    simp only [Option.map_some, Option.getD_some, Nat.zero_add]
    exact (oks_v (xG X) mu la n j h9).symm
theorem V_newq (C : Ok X cc Ts own ret fr nL) {m : Int} {index w : Nat} {Cn : String} {cA0 : ClassId} (N : Nat) (hd : decode cc pc = .ok (.anewarray index, 3)) (hcl : Cond.classLink own index Cn ∈ Ts) (hover : va_AO Cn (xS X)) (ht : (gT (xG X))[w + 2]? = some (cA0, .object Cn)) (hw : w < 2) (hm : m = (N : Int)) (hN : N ≤ 100000) (hf : k + 1 ≤ (xR X).cells ∧ sl + N ≤ (xR X).slots)
    (kk : V X (pc + 3) r (.ref n :: st) (grow S n (.inr (.inl (w, N, fun _ => none)))) (n + 1) (zm mu n) (zl la n) (k + 1) (sl + N)) : V X pc r (.int (I32 m) :: st) S n mu la k sl := by
  intro H locs ls hH hS hl
  have hn := hH.2.2.1
  subst hm
  have eN : (I32 (N : Int)).toNatClampNeg = N := by rw [I32_clamp (by omega)]; omega
  refine W.anew (g := F0 (xM X) pc ls (.int (I32 N) :: st)) C.1 C.2.1 C.own (C.ts _ hcl) (va_AO.use hover) rfl hd rfl (by rw [I32_0, I32_lt (by omega) (by omega)]; omega) (by rw [eN]; omega) hf.1 (by rw [eN]; exact hf.2) fun cA kA comp f1 f2 f3 f4 => ?_
  obtain ⟨-, _, _, -, -, -, hA⟩ := (C.pe.1.2 (w + 2) _ ht)
  have hc : cA = cA0 := Option.some.inj (f1.symm.trans hA)
  subst hc
  rw [eN, hn]
  generalize hH1 : H.push ({ cls := cA, slots := Array.replicate N .null, vm := .none } : Cell) = H1
  have z1 : H1.size = n + 1 := by rw [← hH1, Array.size_push, hn]
  have e1 : H1[n]? = some (arrV cA N (fun _ => .null)) := by rw [← hH1, ← hn, Array.getElem?_push_size, ← arrV_new]
  have o1 : ∀ q : Nat, q < n → H1[q]? = H[q]? := fun q hq => by rw [← hH1, Array.getElem?_push, if_neg (by omega)]
  refine kk H1 _ ls (hH.push ?_ z1 o1) (hS.push (by omega) (fun q hq => o1 q (by omega))) hl
  match w, hw, ht with
  | 0, _, ht =>
    cases ht
    show H1[n]? = some (vp_cell _ _)
    rw [vp_cell_q]
    exact e1
  | 1, _, ht =>
    cases ht
    show H1[n]? = some (vp_cell _ _)
    rw [vp_cell_q]
    exact e1
theorem V_objInit (C : Ok X cc Ts own ret fr nL) {a index : Nat} (hd : decode cc pc = .ok (.invokespecial index, 3)) (hl1 : Cond.methodLink own index objectInit ∈ Ts) (hl2 : Cond.instanceMethod objectInit ∈ Ts) (hl3 : Cond.code objectInit ⟨#[0xb1]⟩ 1 none ∈ Ts) (hfr : 1 ≤ fr) (hcat : (st.map fun v => v.category).sum ≤ 8)
    (kk : V X (pc + 3) r st S n mu la k sl) : V X pc r (.ref a :: st) S n mu la k sl := fun H locs ls hH hS hl =>
  W.objInit (g := F0 (xM X) pc ls (.ref a :: st)) C.1 C.2.1 C.own (C.ts _ hl1) (C.ts _ hl2) (C.ts _ hl3) rfl (by rw [C.2.2.1]; exact hl.1) rfl hd (by rw [C.frames]; exact hfr) (by rw [C.regs]; have := cat_le (g := pc) hcat (ls := ls) (st0 := .ref a :: st) (m := xM X); omega) (kk H locs ls hH hS hl)
/-- a reference is written into an own object's slot -/
theorem V_putO (C : Ok X cc Ts own ret fr nL) (hnm0 : (xT X).name = "<init>") {a ci index N : Nat} {ks : List Sk} {Cn ref : String} {T : u_T} {b : Nat} {ty : FieldType} (i : Nat) (hd : decode cc pc = .ok (.putfield index, 3)) (hx : hasS S a (.inr (.inr (ci, ks)))) (hc : vwCl[ci]? = some (Cn, T, N)) (hin : ∀ w ∈ u_ws Cn T N, w ∈ Ts)
    (ty0 : Nat → FieldType) (hty : ∀ k, k < N → parseFieldDescriptor (T k).2.2.1 = some (ty0 k)) (hnm : ∀ a, a < N → ∀ b, b < N → a ≠ b → (T a).2.1 ≠ (T b).2.1) (hi : i < N)
    (hlink : (Cond.fieldLink own index ref (T i).2.1 (T i).2.2.1) ∈ Ts) (href : (T i).1 = ref) (hown : (T i).1 = own) (hds : parseFieldDescriptor (T i).2.2.1 = some ty) (hn : narrow ty (.ref b) = .ref b) (hfit : fits ty (.ref b) = true) (hlen : i < ks.length)
    (kk : V X (pc + 3) r st (reS S a (.inr (.inr (ci, ks.set i (.inl (.ref b)))))) n mu la k sl) : V X pc r (.ref b :: .ref a :: st) S n mu la k sl := by
  intro H locs ls hH hS hl
  obtain ⟨j, hj, hat⟩ := hH.obj hx
  obtain ⟨r9, g1, cell, q1, q2, q3, q4⟩ := hat
  have hr : r9 = (Cn, T, N) := Option.some.inj (g1.symm.trans hc)
  subst hr
  obtain ⟨hSl, hfc, kC, hkC, hkind⟩ := C.pe.1.1 ci _ hc
  obtain ⟨cf, kf, fi, f, hif, hsl⟩ := hSl i hi
  have hlay := C.ts _ (hin _ (u_in_lay hi))
  have hst := (u_facts hfc hkC (u_lays C.ts hin hi) hif).1
  have fin9 : ∀ (H' : Heap), H'[a]? = some (cell.setSlot f.slot (.ref b)) → H'.size = H.size → (∀ q, q ≠ a → H'[q]? = H[q]?) → W (xP X) (xL X) (xE X) (xR X) (xS X) (xM X) (xA X) (xB X) (xT X) (xC X) H' (locs ++ [⟨a, f.slot⟩]) k sl (xQ X) (F0 (xM X) (pc + 3) ls st) := by
    intro H' e1 e2 e3
    rw [hsl] at e1 ⊢
    refine kk H' _ ls (hH.reput hx ?_ e2 e3) (hS.put e2 e3 (hH.2.1.2 j _ hj)) hl
    show va_at _ _ (a, .inr (ci, oV (xG X) mu la a 0 (ks.set i (.inl (.ref b))))) H'
    rw [oV_set (xG X) mu mu la la a ks 0 i _ hlen (fun _ _ => rfl) (fun _ _ => rfl)]
    exact obj_put C.ts hc hin ty0 hty hnm C.pe.1 q2 q3 q4 hi (by rw [oV_len]; exact hlen) e1
  subst href
  unfold u_lay at hlay
  by_cases hfin : (T i).2.2.2 = true
  · rw [if_pos hfin] at hlay
    have hcf : (xM X).cls = cf := by
      obtain ⟨_, _, c', _, _, _, -, -, hf', -, -, -, hown2, -⟩ := Cond.laysFinal_spec hlay
      have e1 : c' = cf := by have := hif.symm.trans hf'; simp at this; exact this.1.symm
      rw [hown] at hown2
      rw [← e1]; exact Option.some.inj (C.own.symm.trans hown2)
    have h6 := u_fits hfc hkC hkind (Or.inr hlay) hif hds hn hfit
    exact W.putFinK (g := F0 (xM X) pc ls (.ref b :: .ref a :: st)) C.1 C.2.1 C.own (C.ts _ hlink) hif hst hcf hnm0 (by rw [q2]; exact h6) q1 q3 (by rw [hsl]; exact k2_hasslot (q4 i hi)) rfl rfl hd fin9
  · rw [if_neg hfin] at hlay
    have h6 := u_store hfc hkC hkind hlay hif hds hn hfit
    exact W.putK (g := F0 (xM X) pc ls (.ref b :: .ref a :: st)) C.1 C.2.1 (f := f) ⟨C.own, C.ts _ hlink, ⟨_, _, _, hif⟩, hst⟩ (by rw [q2]; exact h6) q1 q3 (by rw [hsl]; exact k2_hasslot (q4 i hi)) rfl rfl hd fin9
/-- a reference to an own object is written into a row of references -/
theorem V_aast (C : Ok X cc Ts own ret fr nL) {a m w b ci : Nat} {f : Nat → Option Nat} {i : Int} {ks : List Sk} {q : vw_C} {cA0 : ClassId} (hd : decode cc pc = .ok (.aastore, 1)) (hx : hasS S a (.inr (.inl (w, m, f)))) (hw : w < 2) (ht : (gT (xG X))[w + 2]? = some (cA0, .object q.1)) (hy : hasS S b (.inr (.inr (ci, ks)))) (hc : vwCl[ci]? = some q) (hm : m < 2147483648) (hi : 0 ≤ i ∧ i < m)
    (kk : V X (pc + 1) r st (reS S a (.inr (.inl (w, m, va_up f i.toNat (some b))))) n mu la k sl) : V X pc r (.ref b :: .int (I32 i) :: .ref a :: st) S n mu la k sl := by
  intro H locs ls hH hS hl
  obtain ⟨j, hj, hat⟩ := hH.obj hx
  obtain ⟨j2, hj2, hat2⟩ := hH.obj hy
  obtain ⟨r', hr', cellV, g1, g2, g3, -⟩ := hat2
  have hcls := (C.pe.1.1 ci _ hc).2
  obtain ⟨-, kA, comp, k1, k2, k3, -⟩ := (C.pe.1.2 (w + 2) _ ht)
  have hcomp : comp = (gD (xG X)).1 ci := Option.some.inj (k3.symm.trans hcls.1)
  subst hcomp
  obtain ⟨kC, hkC, -⟩ := hcls.2
  have hcell : H[a]? = some (vp_cell cA0 (m, .inr (.inr (.inr (.inr f))))) := by
    match w, hw, ht, hat with
    | 0, _, ht, hat =>
      have e0 : (xG X).2.1.2.2.1 = cA0 := congrArg Prod.fst (Option.some.inj (show some ((xG X).2.1.2.2.1, FieldType.object RX4) = some (cA0, .object q.1) from ht))
      rw [← e0]; exact hat
    | 1, _, ht, hat =>
      have e0 : (xG X).2.1.2.2.2 = cA0 := congrArg Prod.fst (Option.some.inj (show some ((xG X).2.1.2.2.2, FieldType.object RX7) = some (cA0, .object q.1) from ht))
      rw [← e0]; exact hat
  refine W.aast (g := F0 (xM X) pc ls (.ref b :: .int (I32 i) :: .ref a :: st)) C.1 C.2.1 hcell (fun q h => by cases h) (fun h => by cases h) k1 k2 rfl hkC ⟨by rw [I32_0, I32_lt (by omega) (by omega)]; omega, by show _ < (arrV _ _ _).slots.size; rw [arrV_size, I32_clamp (by omega)]; omega⟩ g1 (fun q h => by rw [g3] at h; cases h) (by rw [g2]; exact hkC) (by rw [g2]; exact va_assign hcls) rfl rfl hd fun H1 e z oq => ?_
  refine kk H1 _ ls (hH.reput hx ?_ z oq) (hS.put z oq (hH.2.1.2 j _ hj)) hl
  have e9 : H1[a]? = some (vp_cell cA0 (m, .inr (.inr (.inr (.inr (va_up f i.toNat (some b))))))) := by
    rw [e]
    rw [vp_cell_q, vp_cell_q, arrV_store, I32_clamp (by omega)]
    congr 2
    funext q
    by_cases hq : q = i.toNat
    · subst hq
      simp [updV, va_up, va_rf]
    · simp [updV, va_up, hq]
  match w, hw, ht with
  | 0, _, ht =>
    have e0 : (xG X).2.1.2.2.1 = cA0 := congrArg Prod.fst (Option.some.inj (show some ((xG X).2.1.2.2.1, FieldType.object RX4) = some (cA0, .object q.1) from ht))
    rw [← e0] at e9; exact e9
  | 1, _, ht =>
    have e0 : (xG X).2.1.2.2.2 = cA0 := congrArg Prod.fst (Option.some.inj (show some ((xG X).2.1.2.2.2, FieldType.object RX7) = some (cA0, .object q.1) from ht))
    rw [← e0] at e9; exact e9
end VNW
/-- a constructor's body -/
theorem Ct.ofI {G : Gx} {l : Launch} {y : MethodName} {ws ws' : List Cond} {fr mc ms nL : Nat} {av : List Value} {S : Sh} {n : Nat} {mu : Mem} {la : Lam} {Po : Option Value → Sh → Nat → Mem → Lam → Prop} {cc : ByteArray} {ret : Option FieldType} (r : Rg)
    (hG : GP G) (hy : plainName y.cls = true) (hw : ws = Cond.code y cc nL ret :: ws') (hle : (lg_sl av).length ≤ nL) (hr : rOf 0 r = lv_args 0 av)
    (body : ∀ X : Cx, xG X = G → xL X = l → Ok X cc ws y.cls ret fr nL → (xT X).name = y.name → (xR X).cells = mc → (xR X).slots = ms → En X mc ms Po → V X 0 r [] S n mu la 0 0) : Ct G l y ws fr mc ms av S n mu la Po := by
  refine Met.ofW (cc := cc) (maxL := nL) (ret := ret) hy hw ?_
  intro p e s m args below meth c s₁ B hml hv
  obtain ⟨rfl, hpe, hH⟩ := hv
  have hts := atoms_spec (ws := ws) B.pre
  have hown : s.vm.findClass y.cls = some m.cls := findClass_of_methodNamed B.named
  have hl := lv_entry av (n := nL) hle
  rw [lg_entry_eq]
  generalize (lg_sl av ++ List.replicate (nL - (lg_sl av).length) Slot.unset).toArray = ls at hl ⊢
  rw [← hr] at hl
  exact body (p, l, e, (headSpec ws (rmOf fr mc ms)).room, s, m, av.toArray, below, meth, c, MQ below (Qm G Po) av.toArray s mc ms (gA G), nL, G) rfl rfl
    ⟨B.exec, B.bytes, hml, rfl, hown, hts, B.returns, B.notSynchronized, hpe, Nat.le_trans hH.2.2.2 (Nat.le_of_eq hH.2.2.1.symm), hG, rfl, rfl⟩ (name_of_methodNamed B.named B.method).1 rfl rfl rfl s.heap [] ls hH va_S.rf hl
section VNC
variable {X : Cx} {cc : ByteArray} {Ts : List Cond} {own : String} {ret : Option FieldType} {fr nL : Nat} {pc : Nat} {r : Rg} {st : List Value} {S : Sh} {n : Nat} {mu : Mem} {la : Lam} {k sl : Nat}
theorem V_callI (C : Ok X cc Ts own ret fr nL) {index nA maxL fc mcc msc b : Nat} {y : MethodName} {ws ws' : List Cond} {bytes : ByteArray} {As rest : List Value} {Pc : Option Value → Sh → Nat → Mem → Lam → Prop}
    (hd : decode cc pc = .ok (.invokespecial index, 3)) (hM : Ct (xG X) (xL X) y ws fc mcc msc (.ref b :: As) S n mu la Pc) (hG : GoodIn Ts ws) (hlk : Cond.methodLink own index y ∈ Ts) (hini : Cond.initialized y.cls ∈ Ts) (hins : Cond.instanceMethod y ∈ Ts) (hy1 : y.name = "<init>") (hw : ws = Cond.code y bytes maxL none :: ws')
    (hy : y.cls ≠ "java/lang/invoke/MethodHandle" ∧ y.cls ≠ "java/lang/invoke/VarHandle" ∧ (parseMethodDescriptor y.desc).map (fun d => d.parameters.length) = some nA)
    (hn : As.length = nA) (hfr : fc + 1 ≤ fr) (hml : maxL ≤ 11) (hcat : (rest.map fun v => v.category).sum ≤ 8) (hf : k + mcc ≤ (xR X).cells ∧ sl + msc ≤ (xR X).slots) {st0 : List Value} (hst : st0 = psh (.ref b :: As) rest)
    (kk : ∀ (o : Option Value) (S' : Sh) (n' : Nat) (mu' : Mem) (la' : Lam), Pc o S' n' mu' la' → V X (pc + 3) r (o.toList ++ rest) S' n' mu' la' (k + mcc) (sl + msc)) : V X pc r st0 S n mu la k sl := by
  intro H locs ls hH hS hl
  refine V_ran C (va_runI ⟨C.1, C.2.1, C.2.2.1, C.own, C.ts⟩ hM (cwI nA C.ts hG hw rfl rfl (C.ts _ hini) (C.ts _ hlk) (C.ts _ hins) hy1 hy ⟨by rw [C.frames]; exact hfr, by rw [C.regs]; show 8 + (maxL + 11) + 30 * fc ≤ _; omega⟩)
    ⟨Pm_blind C.gp, V_pre C hH hS (.ref b :: As)⟩ rfl hn hl.1 (by rw [hst, psh_eq]; simp) (cat_le hcat) hd hf) hS hl kk
theorem V_callIN (C : Ok X cc Ts own ret fr nL) {index nA maxL fc mcc msc b : Nat} {host : String} {y : MethodName} {ws ws' : List Cond} {bytes : ByteArray} {As rest : List Value} {Pc : Option Value → Sh → Nat → Mem → Lam → Prop}
    (hd : decode cc pc = .ok (.invokespecial index, 3)) (hM : Ct (xG X) (xL X) y ws fc mcc msc (.ref b :: As) S n mu la Pc) (hG : GoodIn Ts ws) (hnw : Cond.methodLinkNest own index y host ∈ nW) (hini : Cond.initialized y.cls ∈ Ts) (hins : Cond.instanceMethod y ∈ Ts) (hy1 : y.name = "<init>") (hw : ws = Cond.code y bytes maxL none :: ws')
    (hy : y.cls ≠ "java/lang/invoke/MethodHandle" ∧ y.cls ≠ "java/lang/invoke/VarHandle" ∧ (parseMethodDescriptor y.desc).map (fun d => d.parameters.length) = some nA)
    (hn : As.length = nA) (hfr : fc + 1 ≤ fr) (hml : maxL ≤ 11) (hcat : (rest.map fun v => v.category).sum ≤ 8) (hf : k + mcc ≤ (xR X).cells ∧ sl + msc ≤ (xR X).slots) {st0 : List Value} (hst : st0 = psh (.ref b :: As) rest)
    (kk : ∀ (o : Option Value) (S' : Sh) (n' : Nat) (mu' : Mem) (la' : Lam), Pc o S' n' mu' la' → V X (pc + 3) r (o.toList ++ rest) S' n' mu' la' (k + mcc) (sl + msc)) : V X pc r st0 S n mu la k sl := by
  intro H locs ls hH hS hl
  refine V_ran C (va_runIN ⟨C.1, C.2.1, C.2.2.1, C.own, C.ts⟩ hM ⟨va_cnB nA C.ts hG hw rfl rfl (C.pe.2.1 _ hnw) (C.ts _ hini) hy ⟨by rw [C.frames]; exact hfr, by rw [C.regs]; show 8 + (maxL + 11) + 30 * fc ≤ _; omega⟩, hy1, C.ts _ hins⟩
    ⟨Pm_blind C.gp, V_pre C hH hS (.ref b :: As)⟩ rfl hn hl.1 (by rw [hst, psh_eq]; simp) (cat_le hcat) hd hf) hS hl kk
end VNC
