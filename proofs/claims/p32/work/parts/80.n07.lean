/-! THE LAW'S ROWS AND THE CLASS'S LAYOUT -/
/-- q: a group that lies nowhere as yet (none: -1) -/
def Lr (mu : Mem) (w : Nat) (L : Mem) (P q : Int) : Prop :=
  (∃ o c : Int → Int, Sg L (mu w 3) (mu (w + 1)) o c) ∧
  (mu w 2 = P) ∧
  (∀ k : Int, 0 ≤ k → k < P → mu (w + 2) (4 * k + 2) = if L 0 k = -1 then -1 else L 0 k - 16) ∧
  (∀ k : Int, 0 ≤ k → k < P → L 0 k ≠ -1 → mu (w + 2) (4 * k + 3) = L 1 k) ∧
  (∀ g : Int, 16 ≤ g → g < 21 → (L 0 g ≠ -1 ∨ g = q) → mu (w + 2) (4 + g) = L 4 (g - 16)) ∧
  (mu w 4 = L 2 48) ∧
  (∀ t : Int, 16 ≤ t → t < 47 → L 0 t = 48 → mu (w + 3) (L 1 t) = t - 16) ∧
  (∀ k : Int, 0 ≤ k → k < P → L 0 k < 21)
theorem Lr.sg {mu : Mem} {w : Nat} {L : Mem} {P q : Int} (h9 : Lr mu w L P q) : ∃ o c : Int → Int, Sg L (mu w 3) (mu (w + 1)) o c := h9.1
theorem Lr.np {mu : Mem} {w : Nat} {L : Mem} {P q : Int} (h9 : Lr mu w L P q) : mu w 2 = P := h9.2.1
theorem Lr.grp {mu : Mem} {w : Nat} {L : Mem} {P q : Int} (h9 : Lr mu w L P q) : ∀ k : Int, 0 ≤ k → k < P → mu (w + 2) (4 * k + 2) = if L 0 k = -1 then -1 else L 0 k - 16 := h9.2.2.1
theorem Lr.pla {mu : Mem} {w : Nat} {L : Mem} {P q : Int} (h9 : Lr mu w L P q) : ∀ k : Int, 0 ≤ k → k < P → L 0 k ≠ -1 → mu (w + 2) (4 * k + 3) = L 1 k := h9.2.2.2.1
theorem Lr.act {mu : Mem} {w : Nat} {L : Mem} {P q : Int} (h9 : Lr mu w L P q) : ∀ g : Int, 16 ≤ g → g < 21 → (L 0 g ≠ -1 ∨ g = q) → mu (w + 2) (4 + g) = L 4 (g - 16) := h9.2.2.2.2.1
theorem Lr.flo {mu : Mem} {w : Nat} {L : Mem} {P q : Int} (h9 : Lr mu w L P q) : mu w 4 = L 2 48 := h9.2.2.2.2.2.1
theorem Lr.fli {mu : Mem} {w : Nat} {L : Mem} {P q : Int} (h9 : Lr mu w L P q) : ∀ t : Int, 16 ≤ t → t < 47 → L 0 t = 48 → mu (w + 3) (L 1 t) = t - 16 := h9.2.2.2.2.2.2.1
theorem Lr.low {mu : Mem} {w : Nat} {L : Mem} {P q : Int} (h9 : Lr mu w L P q) : ∀ k : Int, 0 ≤ k → k < P → L 0 k < 21 := h9.2.2.2.2.2.2.2
theorem Lr.mk {mu : Mem} {w : Nat} {L : Mem} {P q : Int} (h_sg : ∃ o c : Int → Int, Sg L (mu w 3) (mu (w + 1)) o c) (h_np : mu w 2 = P) (h_grp : ∀ k : Int, 0 ≤ k → k < P → mu (w + 2) (4 * k + 2) = if L 0 k = -1 then -1 else L 0 k - 16) (h_pla : ∀ k : Int, 0 ≤ k → k < P → L 0 k ≠ -1 → mu (w + 2) (4 * k + 3) = L 1 k) (h_act : ∀ g : Int, 16 ≤ g → g < 21 → (L 0 g ≠ -1 ∨ g = q) → mu (w + 2) (4 + g) = L 4 (g - 16)) (h_flo : mu w 4 = L 2 48) (h_fli : ∀ t : Int, 16 ≤ t → t < 47 → L 0 t = 48 → mu (w + 3) (L 1 t) = t - 16) (h_low : ∀ k : Int, 0 ≤ k → k < P → L 0 k < 21) : Lr mu w L P q := ⟨h_sg, h_np, h_grp, h_pla, h_act, h_flo, h_fli, h_low⟩
/-- what stays: all but the law's rows, the window, the panes and their least sizes -/
def Fr (mu mu' : Mem) (w : Nat) : Prop :=
  (∀ (a : Nat) (i : Int), (a < w ∨ w + 3 < a) → mu' a i = mu a i) ∧
  (mu' w 0 = mu w 0 ∧ mu' w 1 = mu w 1 ∧ mu' w 2 = mu w 2) ∧
  (∀ k : Int, 0 ≤ k → k < 5 → mu' (w + 2) (4 * k) = mu (w + 2) (4 * k) ∧ mu' (w + 2) (4 * k + 1) = mu (w + 2) (4 * k + 1))
theorem Fr.off {mu mu' : Mem} {w : Nat} (h9 : Fr mu mu' w) : ∀ (a : Nat) (i : Int), (a < w ∨ w + 3 < a) → mu' a i = mu a i := h9.1
theorem Fr.hd {mu mu' : Mem} {w : Nat} (h9 : Fr mu mu' w) : mu' w 0 = mu w 0 ∧ mu' w 1 = mu w 1 ∧ mu' w 2 = mu w 2 := h9.2.1
theorem Fr.lst {mu mu' : Mem} {w : Nat} (h9 : Fr mu mu' w) : ∀ k : Int, 0 ≤ k → k < 5 → mu' (w + 2) (4 * k) = mu (w + 2) (4 * k) ∧ mu' (w + 2) (4 * k + 1) = mu (w + 2) (4 * k + 1) := h9.2.2
theorem Fr.mk {mu mu' : Mem} {w : Nat} (h_off : ∀ (a : Nat) (i : Int), (a < w ∨ w + 3 < a) → mu' a i = mu a i) (h_hd : mu' w 0 = mu w 0 ∧ mu' w 1 = mu w 1 ∧ mu' w 2 = mu w 2) (h_lst : ∀ k : Int, 0 ≤ k → k < 5 → mu' (w + 2) (4 * k) = mu (w + 2) (4 * k) ∧ mu' (w + 2) (4 * k + 1) = mu (w + 2) (4 * k + 1)) : Fr mu mu' w := ⟨h_off, h_hd, h_lst⟩
theorem Fr.rf (mu : Mem) (w : Nat) : Fr mu mu w := Fr.mk (fun _ _ _ => rfl) ⟨rfl, rfl, rfl⟩ (fun _ _ _ => ⟨rfl, rfl⟩)
theorem Fr.tr {a b c : Mem} {w : Nat} (h1 : Fr a b w) (h2 : Fr b c w) : Fr a c w :=
  Fr.mk (fun x i h => (h2.off x i h).trans (h1.off x i h)) ⟨h2.hd.1.trans h1.hd.1, h2.hd.2.1.trans h1.hd.2.1, h2.hd.2.2.trans h1.hd.2.2⟩ (fun k h3 h4 => ⟨(h2.lst k h3 h4).1.trans (h1.lst k h3 h4).1, (h2.lst k h3 h4).2.trans (h1.lst k h3 h4).2⟩)
theorem Fr.up {mu mu' : Mem} {w : Nat} (h : Fr mu mu' w) {a : Nat} {i v : Int} (ha : (a = w + 1) ∨ (a = w + 3) ∨ (a = w ∧ 3 ≤ i) ∨ (a = w + 2 ∧ (20 ≤ i ∨ 2 ≤ i % 4))) : Fr mu (up mu' a i v) w := by
  refine Fr.mk (fun x j hx => ?_) ⟨?_, ?_, ?_⟩ (fun k h3 h4 => ⟨?_, ?_⟩)
  · rw [up_e, if_neg (by omega)]; exact h.off x j hx
  · rw [up_e, if_neg (by omega)]; exact h.hd.1
  · rw [up_e, if_neg (by omega)]; exact h.hd.2.1
  · rw [up_e, if_neg (by omega)]; exact h.hd.2.2
  · rw [up_e, if_neg (by omega)]; exact (h.lst k h3 h4).1
  · rw [up_e, if_neg (by omega)]; exact (h.lst k h3 h4).2
theorem Fr.jC {mu mu' : Mem} {w : Nat} (h : Fr mu mu' w) (t : Int) : Fr mu (jC mu' w t) w := by
  refine Fr.mk (fun x j hx => ?_) ⟨?_, ?_, ?_⟩ (fun k h3 h4 => ⟨?_, ?_⟩)
  · rw [jC_x _ _ _ (by omega)]; exact h.off x j hx
  · rw [jC_x _ _ _ (by omega)]; exact h.hd.1
  · rw [jC_x _ _ _ (by omega)]; exact h.hd.2.1
  · rw [jC_x _ _ _ (by omega)]; exact h.hd.2.2
  · rw [jC_x _ _ _ (by omega)]; exact (h.lst k h3 h4).1
  · rw [jC_x _ _ _ (by omega)]; exact (h.lst k h3 h4).2
theorem jP_x (mu : Mem) (w : Nat) (t k we gr : Int) {a : Nat} {i : Int} (h : a ≠ w + 1 ∧ (a ≠ w ∨ i ≠ 3)) : jP mu w t k we gr a i = mu a i := by
  unfold jP
  rw [if_neg h.1, if_neg (by omega)]
theorem Fr.jP {mu mu' : Mem} {w : Nat} (h : Fr mu mu' w) (t k we gr : Int) : Fr mu (jP mu' w t k we gr) w := by
  refine Fr.mk (fun x j hx => ?_) ⟨?_, ?_, ?_⟩ (fun k h3 h4 => ⟨?_, ?_⟩)
  · rw [jP_x _ _ _ _ _ _ (by omega)]; exact h.off x j hx
  · rw [jP_x _ _ _ _ _ _ (by omega)]; exact h.hd.1
  · rw [jP_x _ _ _ _ _ _ (by omega)]; exact h.hd.2.1
  · rw [jP_x _ _ _ _ _ _ (by omega)]; exact h.hd.2.2
  · rw [jP_x _ _ _ _ _ _ (by omega)]; exact (h.lst k h3 h4).1
  · rw [jP_x _ _ _ _ _ _ (by omega)]; exact (h.lst k h3 h4).2
theorem Fr.jKf {mu mu' : Mem} {w : Nat} (h : Fr mu mu' w) (t : Int) : Fr mu (jKf mu' w t) w := by
  refine Fr.mk (fun x j hx => ?_) ⟨?_, ?_, ?_⟩ (fun k h3 h4 => ⟨?_, ?_⟩)
  · rw [jKf_x _ _ _ (by omega)]; exact h.off x j hx
  · rw [jKf_x _ _ _ (by omega)]; exact h.hd.1
  · rw [jKf_x _ _ _ (by omega)]; exact h.hd.2.1
  · rw [jKf_x _ _ _ (by omega)]; exact h.hd.2.2
  · rw [jKf_x _ _ _ (by omega)]; exact (h.lst k h3 h4).1
  · rw [jKf_x _ _ _ (by omega)]; exact (h.lst k h3 h4).2
theorem Fr.jKm {mu mu' : Mem} {w : Nat} (h : Fr mu mu' w) {p : Int} (hp : 0 ≤ p) : Fr mu (jKm mu' w p) w := by
  have e : ∀ (a : Nat) (i : Int), (a ≠ w + 2 ∨ i % 4 ≤ 1) → CDockTreeLaw_law_r5321_3fbd41.jKm mu' w p a i = mu' a i := fun a i q => by
    unfold CDockTreeLaw_law_r5321_3fbd41.jKm
    rw [jK1_x _ _ _ _ _ (by omega), up_e, if_neg (by omega)]
  refine Fr.mk (fun x j hx => ?_) ⟨?_, ?_, ?_⟩ (fun k h3 h4 => ⟨?_, ?_⟩)
  · rw [e _ _ (by omega)]; exact h.off x j hx
  · rw [e _ _ (by omega)]; exact h.hd.1
  · rw [e _ _ (by omega)]; exact h.hd.2.1
  · rw [e _ _ (by omega)]; exact h.hd.2.2
  · rw [e _ _ (by omega)]; exact (h.lst k h3 h4).1
  · rw [e _ _ (by omega)]; exact (h.lst k h3 h4).2
/-- the same tree, the same row -/
theorem Sg.cg {L L' : Mem} {m : Int} {Q Q' o c : Int → Int} (S : Sg L m Q o c) (tn : ∀ x : Int, Tn L' x ↔ Tn L x) (e0 : ∀ x : Int, Tn L x → L' 0 x = L 0 x) (e1 : ∀ x : Int, Tn L x → L' 1 x = L 1 x)
    (e2 : ∀ x : Int, 32 ≤ x → x < 48 → L' 2 x = L 2 x) (e3 : ∀ x : Int, Tn L x → L 0 x ≠ 47 → L' 3 x = L 3 x) (e5 : ∀ x : Int, 0 ≤ x → x < 15 → L' 5 x = L 5 x) (eQ : ∀ i : Int, 0 ≤ i → i < 3 * m → Q' i = Q i)
    (pr : ∀ x : Int, Tn L x → L 0 x = 47 ∨ (32 ≤ L 0 x ∧ L 0 x < 47)) : Sg L' m Q' o c := by
  refine Sg.mk (fun x h => ?_) (fun x h q => ?_) (fun x h q => ?_) (fun x h q => ?_) (fun x h q => ?_) (fun x h q z => ?_) (fun x u h hu q z f => ?_) (fun x h q z => ?_) (fun x u h hu q => ?_) (fun x u h hu y32 u32 q => ?_) (fun j j1 j2 => ?_) (fun q => ?_) (fun x y1 y2 => ?_) S.nng
  · exact S.rng x ((tn x).mp h)
  · have h := (tn x).mp h
    rw [e0 x h] at q
    exact S.rot x h q
  · have h := (tn x).mp h
    have r := S.rng x h
    rw [eQ _ (by omega) (by omega), eQ _ (by omega) (by omega)]
    exact S.lef x h q
  · have h := (tn x).mp h
    have r := S.rng x h
    rw [eQ _ (by omega) (by omega), eQ _ (by omega) (by omega), e5 _ (by omega) (by have := h.1; omega)]
    exact S.spl x h q
  · have h := (tn x).mp h
    have r := S.rng x h
    rw [e0 x h] at q
    rw [eQ _ (by omega) (by omega), e3 x h q]
    exact S.wgt x h q
  · have h := (tn x).mp h
    rw [e0 x h] at q ⊢
    rw [e1 x h] at z
    exact S.fst x h q z
  · have h := (tn x).mp h
    have hu := (tn u).mp hu
    rw [e0 x h] at q z
    rw [e0 u hu] at z
    rw [e1 x h, e1 u hu] at f
    exact S.nxt x u h hu q z f
  · have h := (tn x).mp h
    have p := pr x h
    rw [e0 x h] at q z ⊢
    rw [e1 x h, e2 _ (by omega) (by omega)] at z
    exact S.lst x h q z
  · exact S.inj x u ((tn x).mp h) ((tn u).mp hu) q
  · exact S.jnj x u ((tn x).mp h) ((tn u).mp hu) y32 u32 q
  · obtain ⟨x, hx, hz⟩ := S.cov j j1 j2
    exact ⟨x, (tn x).mpr hx, hz⟩
  · rw [e2 47 (by omega) (by omega)] at q
    exact S.emp q
  · rw [e5 _ (by omega) (by omega)]
    exact S.axs x y1 y2
theorem EndP.cg {Q Q' : Int → Int} {o e : Int} (h : EndP Q o e) (eq : ∀ i : Int, Q' (3 * i) = Q (3 * i)) : EndP Q' o e := by
  obtain ⟨h1, D, d1, d2, d3⟩ := h
  exact ⟨h1, D, d1, fun i i1 i2 => by rw [eq]; exact d2 i i1 i2, d3⟩
/-- the row without a sign -/
theorem jC_row {mu : Mem} {w : Nat} {t i : Int} (ht : 0 ≤ t) (h : i < 3 * (mu w 3 - 1)) : jC mu w t (w + 1) i = if i < 3 * t then mu (w + 1) i else mu (w + 1) (i + 3) := by
  unfold jC jC1
  by_cases q : i < 3 * t
  · rw [if_neg (by omega), if_neg (by omega), if_pos q]
  · rw [if_pos ⟨rfl, by omega, h⟩, if_neg q]
/-- how many panes a group has -/
theorem jTG_sm (Q : Int → Int) {gr : Int} (h : 0 ≤ gr) : ∀ n : Nat, jTG Q gr n = smG (fun k => if Q (4 * k + 2) = gr then 1 else 0) n
  | 0 => rfl
  | n + 1 => by
    have := jTG_sm Q h n
    unfold jTG smG
    rw [this]
    congr 1
    by_cases q : Q (4 * (n : Int) + 2) = gr
    · rw [if_pos ⟨h, q⟩, if_pos q]
    · rw [if_neg (fun z => q z.2), if_neg q]
theorem Lr.tabs {mu : Mem} {w : Nat} {L : Mem} {P q : Int} (A : Lr mu w L P q) (M : Mb L) {g : Int} (hg : 16 ≤ g ∧ g < 32) (hP : 0 ≤ P ∧ P ≤ 16) (hm : ∀ t : Int, 0 ≤ t → t < 49 → L 0 t = g → t < P) : jT mu w (g - 16) = L 2 g := by
  have e := M.cnt (h := g) (a := 0) (m := P.toNat) ⟨by omega, by omega⟩ ⟨by omega, by omega⟩ (fun t h1 h2 h3 => ⟨h1, by have := hm t h1 h2 h3; omega⟩)
  unfold jT
  rw [jTG_sm _ (by omega), A.np, ← e]
  refine smG_ext _ fun k h1 h2 => ?_
  have a := A.grp k h1 (by omega)
  show (if mu (w + 2) (4 * k + 2) = g - 16 then (1 : Int) else 0) = if L 0 (k + 0) = g then 1 else 0
  rw [a, Int.add_zero]
  by_cases q1 : L 0 k = -1
  · rw [if_pos q1, if_neg (by omega), if_neg (by omega)]
  · rw [if_neg q1]
    by_cases q2 : L 0 k = g
    · rw [if_pos (by omega), if_pos q2]
    · rw [if_neg (by omega), if_neg q2]
