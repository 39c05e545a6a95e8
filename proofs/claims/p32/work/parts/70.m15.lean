/-! the order of the nodes -/
def InT (L : Mem) (x : Int) : Prop := Us L (-1) x ∧ L 0 x ≠ 48
abbrev isZ (x : Int) : Prop := 32 ≤ x ∧ x < 47
/-- what comes behind a node and all below it -/
def nx (L : Mem) : Nat → Int → Int
  | 0, _ => -1
  | n + 1, x => if isZ (L 0 x) then (if L 1 x + 1 < L 2 (L 0 x) then mbrF L (L 0 x) (L 1 x + 1) else nx L n (L 0 x)) else -1
def NXT (L : Mem) (x : Int) : Int := nx L 17 x
def suc (L : Mem) (x : Int) : Int := if isZ x then mbrF L x 0 else NXT L x
theorem nx_fuel {L : Mem} (W : Wf L (-1)) {r : Int → Nat} (hb : ∀ x : Int, r x ≤ 16) (hr : ∀ t : Int, 16 ≤ t → t < 47 → 32 ≤ L 0 t → L 0 t < 47 → r t < r (L 0 t)) : ∀ (n m : Nat) (x : Int), 17 - r x ≤ n → 17 - r x ≤ m → (16 ≤ x ∧ x < 47) → nx L n x = nx L m x
  | 0, _, x, h, _, _ => by have := hb x; omega
  | _ + 1, 0, x, _, h, _ => by have := hb x; omega
  | n + 1, m + 1, x, h1, h2, hx => by
    unfold nx
    by_cases s : isZ (L 0 x)
    · have := hr x hx.1 hx.2 s.1 s.2
      have := hb (L 0 x)
      rw [if_pos s, if_pos s, nx_fuel W hb hr n m (L 0 x) (by omega) (by omega) ⟨by have := s.1; omega, s.2⟩]
    · rw [if_neg s, if_neg s]
theorem NXT_e {L : Mem} (W : Wf L (-1)) {x : Int} (hx : 16 ≤ x ∧ x < 47) : NXT L x = if isZ (L 0 x) then (if L 1 x + 1 < L 2 (L 0 x) then mbrF L (L 0 x) (L 1 x + 1) else NXT L (L 0 x)) else -1 := by
  obtain ⟨r, hb, hr⟩ := W.rankB
  show nx L 17 x = _
  rw [show (17 : Nat) = 16 + 1 from rfl, nx]
  by_cases s : isZ (L 0 x)
  · have := hr x hx.1 hx.2 s.1 s.2
    have := hb (L 0 x)
    rw [if_pos s, if_pos s, nx_fuel W hb hr 16 17 (L 0 x) (by omega) (by omega) ⟨by have := s.1; omega, s.2⟩]
    rfl
  · rw [if_neg s, if_neg s]
theorem inj_le (e : Int → Int) (m N : Nat) (hr : ∀ g : Int, 0 ≤ g → g < m → 0 ≤ e g ∧ e g < N) (hi : ∀ g h : Int, 0 ≤ g → g < m → 0 ≤ h → h < m → e g = e h → g = h) : m ≤ N := by
  classical
  have a := smG_name (f := fun o => if ∃ g : Int, 0 ≤ g ∧ g < m ∧ e g = o then 1 else 0) (u := e) (fun _ => True) m N (fun g h1 h2 _ => hr g h1 h2) (fun g h h1 h2 h3 h4 _ _ => hi g h h1 h2 h3 h4) (fun o h1 h2 h3 => by
    have h4 : (if ∃ g : Int, 0 ≤ g ∧ g < m ∧ e g = o then (1 : Int) else 0) ≠ 0 := h3
    by_cases z : ∃ g : Int, 0 ≤ g ∧ g < m ∧ e g = o
    · obtain ⟨g, g1, g2, g3⟩ := z
      exact ⟨g, g1, g2, trivial, g3⟩
    · rw [if_neg z] at h4; exact absurd rfl h4)
  have b := smG_le (fun o => if ∃ g : Int, 0 ≤ g ∧ g < m ∧ e g = o then (1 : Int) else 0) 1 N (fun o _ _ => by show (if _ then (1 : Int) else 0) ≤ 1; split <;> omega)
  have c := smG_ge (fun g => if True then (if ∃ k : Int, 0 ≤ k ∧ k < m ∧ e k = e g then (1 : Int) else 0) else 0) 1 m (fun o h1 h2 => by
    show (1 : Int) ≤ (if True then (if ∃ k : Int, 0 ≤ k ∧ k < m ∧ e k = e o then (1 : Int) else 0) else 0)
    rw [if_pos trivial, if_pos ⟨o, h1, h2, rfl⟩]
    omega)
  omega
theorem psH_e {L : Mem} (W : Wf L (-1)) (F : Fu L) {nd : Int} (hn : 16 ≤ nd ∧ nd < 49) : ∀ (r : Nat) (Q : Mem) (o : Int), MoT Q L → 0 ≤ o → o + r ≤ 31 →
    (psH nd r Q o).2 = o + r ∧ (∀ (k : Nat) (i : Int), k ≠ 3 → (psH nd r Q o).1 k i = Q k i) ∧ (∀ i : Int, i < o ∨ o + r ≤ i → (psH nd r Q o).1 3 i = Q 3 i) ∧ (∀ i : Int, 0 ≤ i → i < r → (psH nd r Q o).1 3 (o + i) = mbrF L nd (r - 1 - i))
  | 0, Q, o, _, _, _ => ⟨by simp [psH], fun _ _ _ => rfl, fun _ _ => rfl, fun i h1 h2 => by omega⟩
  | r + 1, Q, o, hM, h0, h1 => by
    have me := mo_e W F hM (i := r) hn
    have mb : -1 ≤ mbrF L nd r ∧ mbrF L nd r < 49 := by
      by_cases c : (r : Int) < L 2 nd
      · have := (mbrF_get W.mb hn (i := r) ⟨by omega, c⟩).1; omega
      · rw [mbrF_out W.mb hn.1 (by omega)]; omega
    have es : sK Q 3 31 o (mo Q nd r) = up Q 3 o (mbrF L nd r) := by rw [me, sK_in ⟨by omega, by omega⟩ (by decide) (by omega)]
    have hM' : MoT (up Q 3 o (mbrF L nd r)) L := fun h i a b c d => by rw [up_e, if_neg (by omega)]; exact hM h i a b c d
    obtain ⟨p1, p2, p3, p4⟩ := psH_e W F hn r (up Q 3 o (mbrF L nd r)) (o + 1) hM' (by omega) (by omega)
    rw [psH, es]
    refine ⟨by rw [p1]; omega, fun k i hk => by rw [p2 k i hk, up_e, if_neg (by omega)], fun i hi => ?_, fun i i1 i2 => ?_⟩
    · rw [p3 i (by omega), up_e, if_neg (by omega)]
    · by_cases z : i = 0
      · rw [p3 (o + i) (by omega), up_e, if_pos ⟨rfl, by omega⟩, show ((r + 1 : Nat) : Int) - 1 - i = r by omega]
      · have := p4 (i - 1) (by omega) (by omega)
        rw [show o + i = o + 1 + (i - 1) by omega, this]
        congr 1
        omega
def LnI (L Q : Mem) (o : Int) : Prop :=
  (MoT Q L) ∧
  (0 ≤ Q 0 9) ∧
  (0 ≤ o) ∧
  (∀ k : Int, 0 ≤ k → k < Q 0 9 → InT L (Q 2 k)) ∧
  (∀ j : Int, 0 ≤ j → j < o → InT L (Q 3 j)) ∧
  (∀ k l : Int, 0 ≤ k → k < Q 0 9 → 0 ≤ l → l < Q 0 9 → Q 2 k = Q 2 l → k = l) ∧
  (∀ k l : Int, 0 ≤ k → k < o → 0 ≤ l → l < o → Q 3 k = Q 3 l → k = l) ∧
  (∀ k l : Int, 0 ≤ k → k < Q 0 9 → 0 ≤ l → l < o → Q 2 k ≠ Q 3 l) ∧
  ((Q 0 9 = 0 ∧ (o = 0 ∧ L 2 47 = 0 ∨ o = 1 ∧ L 2 47 = 1 ∧ Q 3 0 = mbrF L 47 0)) ∨ (0 < Q 0 9 ∧ L 2 47 = 1 ∧ Q 2 0 = mbrF L 47 0)) ∧
  (∀ k : Int, 0 ≤ k → k < Q 0 9 → isZ (Q 2 k) → ∀ t : Int, 0 ≤ t → t < 49 → L 0 t = Q 2 k → (∃ l : Int, 0 ≤ l ∧ l < Q 0 9 ∧ Q 2 l = t) ∨ (∃ l : Int, 0 ≤ l ∧ l < o ∧ Q 3 l = t)) ∧
  (∀ k : Int, 0 < k → k < Q 0 9 → isZ (L 0 (Q 2 k)) ∧ ∃ l : Int, 0 ≤ l ∧ l < k ∧ Q 2 l = L 0 (Q 2 k)) ∧
  (∀ j : Int, 0 ≤ j → j < o → 0 < Q 0 9 → isZ (L 0 (Q 3 j)) ∧ ∃ l : Int, 0 ≤ l ∧ l < Q 0 9 ∧ Q 2 l = L 0 (Q 3 j)) ∧
  (0 < o → NXT L (Q 3 0) = -1) ∧
  (∀ j : Int, 1 ≤ j → j < o → NXT L (Q 3 j) = Q 3 (j - 1)) ∧
  (0 < Q 0 9 → suc L (Q 2 (Q 0 9 - 1)) = if 0 < o then Q 3 (o - 1) else -1) ∧
  (∀ k : Int, 0 ≤ k → k + 1 < Q 0 9 → Q 2 (k + 1) = suc L (Q 2 k)) ∧
  (Q 0 10 = smG (fun k => if isZ (Q 2 k) then 1 else 0) (Q 0 9).toNat)
theorem LnI.mt {L Q : Mem} {o : Int} (h9 : LnI L Q o) : MoT Q L := h9.1
theorem LnI.n0 {L Q : Mem} {o : Int} (h9 : LnI L Q o) : 0 ≤ Q 0 9 := h9.2.1
theorem LnI.o0 {L Q : Mem} {o : Int} (h9 : LnI L Q o) : 0 ≤ o := h9.2.2.1
theorem LnI.eT {L Q : Mem} {o : Int} (h9 : LnI L Q o) : ∀ k : Int, 0 ≤ k → k < Q 0 9 → InT L (Q 2 k) := h9.2.2.2.1
theorem LnI.wT {L Q : Mem} {o : Int} (h9 : LnI L Q o) : ∀ j : Int, 0 ≤ j → j < o → InT L (Q 3 j) := h9.2.2.2.2.1
theorem LnI.ei {L Q : Mem} {o : Int} (h9 : LnI L Q o) : ∀ k l : Int, 0 ≤ k → k < Q 0 9 → 0 ≤ l → l < Q 0 9 → Q 2 k = Q 2 l → k = l := h9.2.2.2.2.2.1
theorem LnI.wi {L Q : Mem} {o : Int} (h9 : LnI L Q o) : ∀ k l : Int, 0 ≤ k → k < o → 0 ≤ l → l < o → Q 3 k = Q 3 l → k = l := h9.2.2.2.2.2.2.1
theorem LnI.ew {L Q : Mem} {o : Int} (h9 : LnI L Q o) : ∀ k l : Int, 0 ≤ k → k < Q 0 9 → 0 ≤ l → l < o → Q 2 k ≠ Q 3 l := h9.2.2.2.2.2.2.2.1
theorem LnI.rt {L Q : Mem} {o : Int} (h9 : LnI L Q o) : (Q 0 9 = 0 ∧ (o = 0 ∧ L 2 47 = 0 ∨ o = 1 ∧ L 2 47 = 1 ∧ Q 3 0 = mbrF L 47 0)) ∨ (0 < Q 0 9 ∧ L 2 47 = 1 ∧ Q 2 0 = mbrF L 47 0) := h9.2.2.2.2.2.2.2.2.1
theorem LnI.cl {L Q : Mem} {o : Int} (h9 : LnI L Q o) : ∀ k : Int, 0 ≤ k → k < Q 0 9 → isZ (Q 2 k) → ∀ t : Int, 0 ≤ t → t < 49 → L 0 t = Q 2 k → (∃ l : Int, 0 ≤ l ∧ l < Q 0 9 ∧ Q 2 l = t) ∨ (∃ l : Int, 0 ≤ l ∧ l < o ∧ Q 3 l = t) := h9.2.2.2.2.2.2.2.2.2.1
theorem LnI.pe {L Q : Mem} {o : Int} (h9 : LnI L Q o) : ∀ k : Int, 0 < k → k < Q 0 9 → isZ (L 0 (Q 2 k)) ∧ ∃ l : Int, 0 ≤ l ∧ l < k ∧ Q 2 l = L 0 (Q 2 k) := h9.2.2.2.2.2.2.2.2.2.2.1
theorem LnI.pw {L Q : Mem} {o : Int} (h9 : LnI L Q o) : ∀ j : Int, 0 ≤ j → j < o → 0 < Q 0 9 → isZ (L 0 (Q 3 j)) ∧ ∃ l : Int, 0 ≤ l ∧ l < Q 0 9 ∧ Q 2 l = L 0 (Q 3 j) := h9.2.2.2.2.2.2.2.2.2.2.2.1
theorem LnI.s0 {L Q : Mem} {o : Int} (h9 : LnI L Q o) : 0 < o → NXT L (Q 3 0) = -1 := h9.2.2.2.2.2.2.2.2.2.2.2.2.1
theorem LnI.s1 {L Q : Mem} {o : Int} (h9 : LnI L Q o) : ∀ j : Int, 1 ≤ j → j < o → NXT L (Q 3 j) = Q 3 (j - 1) := h9.2.2.2.2.2.2.2.2.2.2.2.2.2.1
theorem LnI.la {L Q : Mem} {o : Int} (h9 : LnI L Q o) : 0 < Q 0 9 → suc L (Q 2 (Q 0 9 - 1)) = if 0 < o then Q 3 (o - 1) else -1 := h9.2.2.2.2.2.2.2.2.2.2.2.2.2.2.1
theorem LnI.ch {L Q : Mem} {o : Int} (h9 : LnI L Q o) : ∀ k : Int, 0 ≤ k → k + 1 < Q 0 9 → Q 2 (k + 1) = suc L (Q 2 k) := h9.2.2.2.2.2.2.2.2.2.2.2.2.2.2.2.1
theorem LnI.sp {L Q : Mem} {o : Int} (h9 : LnI L Q o) : Q 0 10 = smG (fun k => if isZ (Q 2 k) then 1 else 0) (Q 0 9).toNat := h9.2.2.2.2.2.2.2.2.2.2.2.2.2.2.2.2
theorem LnI.mk {L Q : Mem} {o : Int} (h_mt : MoT Q L) (h_n0 : 0 ≤ Q 0 9) (h_o0 : 0 ≤ o) (h_eT : ∀ k : Int, 0 ≤ k → k < Q 0 9 → InT L (Q 2 k)) (h_wT : ∀ j : Int, 0 ≤ j → j < o → InT L (Q 3 j)) (h_ei : ∀ k l : Int, 0 ≤ k → k < Q 0 9 → 0 ≤ l → l < Q 0 9 → Q 2 k = Q 2 l → k = l) (h_wi : ∀ k l : Int, 0 ≤ k → k < o → 0 ≤ l → l < o → Q 3 k = Q 3 l → k = l) (h_ew : ∀ k l : Int, 0 ≤ k → k < Q 0 9 → 0 ≤ l → l < o → Q 2 k ≠ Q 3 l) (h_rt : (Q 0 9 = 0 ∧ (o = 0 ∧ L 2 47 = 0 ∨ o = 1 ∧ L 2 47 = 1 ∧ Q 3 0 = mbrF L 47 0)) ∨ (0 < Q 0 9 ∧ L 2 47 = 1 ∧ Q 2 0 = mbrF L 47 0)) (h_cl : ∀ k : Int, 0 ≤ k → k < Q 0 9 → isZ (Q 2 k) → ∀ t : Int, 0 ≤ t → t < 49 → L 0 t = Q 2 k → (∃ l : Int, 0 ≤ l ∧ l < Q 0 9 ∧ Q 2 l = t) ∨ (∃ l : Int, 0 ≤ l ∧ l < o ∧ Q 3 l = t)) (h_pe : ∀ k : Int, 0 < k → k < Q 0 9 → isZ (L 0 (Q 2 k)) ∧ ∃ l : Int, 0 ≤ l ∧ l < k ∧ Q 2 l = L 0 (Q 2 k)) (h_pw : ∀ j : Int, 0 ≤ j → j < o → 0 < Q 0 9 → isZ (L 0 (Q 3 j)) ∧ ∃ l : Int, 0 ≤ l ∧ l < Q 0 9 ∧ Q 2 l = L 0 (Q 3 j)) (h_s0 : 0 < o → NXT L (Q 3 0) = -1) (h_s1 : ∀ j : Int, 1 ≤ j → j < o → NXT L (Q 3 j) = Q 3 (j - 1)) (h_la : 0 < Q 0 9 → suc L (Q 2 (Q 0 9 - 1)) = if 0 < o then Q 3 (o - 1) else -1) (h_ch : ∀ k : Int, 0 ≤ k → k + 1 < Q 0 9 → Q 2 (k + 1) = suc L (Q 2 k)) (h_sp : Q 0 10 = smG (fun k => if isZ (Q 2 k) then 1 else 0) (Q 0 9).toNat) : LnI L Q o := ⟨h_mt, h_n0, h_o0, h_eT, h_wT, h_ei, h_wi, h_ew, h_rt, h_cl, h_pe, h_pw, h_s0, h_s1, h_la, h_ch, h_sp⟩
theorem InT.rg {L : Mem} {x : Int} (h : InT L x) : 16 ≤ x ∧ x < 47 := h.1.1
theorem InT.hol {L : Mem} (W : Wf L (-1)) {x : Int} (h : InT L x) : L 0 x = 47 ∨ isZ (L 0 x) := by
  have b := h.1.1
  have a1 := W.grp x
  have a2 := W.spl x
  have n : L 0 x ≠ -1 := by have := h.1.2; omega
  have := h.2
  unfold isZ
  omega
theorem InT.par {L : Mem} (W : Wf L (-1)) {x : Int} (h : InT L x) (s : isZ (L 0 x)) : InT L (L 0 x) := by
  have b := h.1.1
  have n : L 0 x ≠ -1 := by have := h.1.2; omega
  have s1 := s.1
  have s2 := s.2
  have o := W.own x (by omega) (by omega) n (by omega)
  have sp := W.spl (L 0 x) (by omega) (by omega)
  exact ⟨⟨⟨by omega, by omega⟩, Or.inl (by omega)⟩, by omega⟩
theorem InT.kid {L : Mem} (W : Wf L (-1)) {x t : Int} (s : isZ x) (ht : 0 ≤ t ∧ t < 49) (h : L 0 t = x) : InT L t := by
  have s1 := s.1
  have s2 := s.2
  exact ⟨W.usd ht (by omega), by omega⟩
/-- all in all no more than 31 -/
theorem LnI.le {L Q : Mem} {o : Int} (I : LnI L Q o) : Q 0 9 + o ≤ 31 := by
  have := inj_le (fun i => (if i < Q 0 9 then Q 2 i else Q 3 (i - Q 0 9)) - 16) (Q 0 9 + o).toNat 31 (fun g h1 h2 => by
    have n0 := I.n0
    have o0 := I.o0
    show 0 ≤ (if g < Q 0 9 then Q 2 g else Q 3 (g - Q 0 9)) - 16 ∧ (if g < Q 0 9 then Q 2 g else Q 3 (g - Q 0 9)) - 16 < 31
    by_cases z : g < Q 0 9
    · have := (I.eT g h1 z).rg; rw [if_pos z]; omega
    · have := (I.wT (g - Q 0 9) (by omega) (by omega)).rg; rw [if_neg z]; omega) (fun g h h1 h2 h3 h4 e => by
    have n0 := I.n0
    have o0 := I.o0
    have e : (if g < Q 0 9 then Q 2 g else Q 3 (g - Q 0 9)) - 16 = (if h < Q 0 9 then Q 2 h else Q 3 (h - Q 0 9)) - 16 := e
    by_cases z : g < Q 0 9
    · by_cases y : h < Q 0 9
      · rw [if_pos z, if_pos y] at e; exact I.ei g h h1 z h3 y (by omega)
      · rw [if_pos z, if_neg y] at e; exact absurd (show Q 2 g = Q 3 (h - Q 0 9) by omega) (I.ew g _ h1 z (by omega) (by omega))
    · by_cases y : h < Q 0 9
      · rw [if_neg z, if_pos y] at e; exact absurd (show Q 2 h = Q 3 (g - Q 0 9) by omega) (I.ew h _ h3 y (by omega) (by omega))
      · rw [if_neg z, if_neg y] at e
        have := I.wi (g - Q 0 9) (h - Q 0 9) (by omega) (by omega) (by omega) (by omega) (by omega)
        omega)
  have n0 := I.n0
  have o0 := I.o0
  omega
