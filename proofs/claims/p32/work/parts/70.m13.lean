/-! at an edge of the window; afloat -/
section RL
variable {u : Int → Int} {L T : Mem} {q kq : Int}
theorem pbF_rt {M : Mem} {g nb side rt : Int} (h : aL M 0 nb = rt) (h1 : 32 ≤ rt ∧ rt < 47) (h2 : aL M 5 (rt - 32) = axF side) : pbF M g nb side = pL (insF M g rt (aL M 1 nb + bhF side)) 3 g (aL M 3 nb) := by
  unfold pbF
  rw [h, if_pos ⟨h1, h2⟩]
theorem dwF_e (L : Mem) (p side : Int) {T M : Mem} {g : Int} (hT : tkF L p = T) (hg : unuF T 16 32 = g) (hM : grpF T p = M) : dwF L p side = if rtF M = -1 then insF M g 47 0
    else if (32 ≤ rtF M ∧ rtF M < 47) ∧ aL M 5 (rtF M - 32) = axF side then pbF M g (mbrF M (rtF M) (if bhF side = 1 then aL M 2 (rtF M) - 1 else 0)) side
    else wrapF M (rtF M) g side := by subst hT; subst hg; subst hM; rfl
theorem Rl.edge (R : Rl u L T (-1) 1) (F : Fu L) {P p side : Int} (hp : 0 ≤ p ∧ p < P) (hsd : 0 ≤ side ∧ side ≤ 3) (hP : P ≤ 16) (hc : Cl L P) :
    ∃ u' : Int → Int, Rl u' (dwF L p side) (egC T P p side) (-1) 1 ∧ Fu (dwF L p side) ∧ Cl (dwF L p side) P ∧ okE T P p side := by
  obtain ⟨R1, F1, k1, ok1, h48⟩ := R.take F hp hP hc
  have c1 : Cl (tkF L p) P := fun y h1 h2 => by
    by_cases y0 : 0 ≤ y
    · rw [k1 y y0 h2]; have := hc y h1 h2; grind
    · omega
  have lp : tkF L p 0 p = -1 := by rw [k1 p hp.1 (by omega), if_pos rfl]
  have hp16 : 0 ≤ p ∧ p < 16 := by omega
  obtain ⟨R2, hg, g2, g0, hf, hf0⟩ := R1.newG F1 hp16 lp (k := 1) (Or.inl rfl)
  obtain ⟨e0, e1, e2, e4, ek⟩ := grpF_rows R1.wf hp16 hg g2
  have fz := R1.wf.freeG F1 hp16 lp
  have rt := R1.root
  rw [dwF_e L p side rfl rfl rfl]
  unfold egC okE dk2
  generalize tkF L p = L1 at *
  generalize tkT T P p = T1 at *
  generalize unuF L1 16 32 = g at *
  have cl : ∀ y : Int, P ≤ y → y < 16 → 0 ≤ y → grpF L1 p 0 y = -1 := by
    intro y h1 h2 h3; rw [e0]; have := c1 y h1 h2; grind
  have eug : (if g = g then frT T1 else u g) = frT T1 := if_pos rfl
  have hg' : 0 ≤ g ∧ g < 49 := by omega
  have w0 := R1.wf.mb.nng 47 (by omega) (by omega)
  have w1 := R1.wf.win
  by_cases hr : L1 2 47 = 1
  · rw [if_pos hr] at rt
    obtain ⟨m1, m2, m3⟩ := mbrF_get R1.wf.mb (h := 47) (i := 0) ⟨by omega, by omega⟩ ⟨by omega, by omega⟩
    have xm := R1.wf.mem m1 (by omega)
    have erF : rtF (grpF L1 p) = mbrF L1 47 0 := by
      have h9 := mbrF_hit R2.wf.mb (h := 47) m1 (by rw [e0, if_neg (show mbrF L1 47 0 ≠ p by omega)]; exact m2) (by omega)
      rw [e1, if_neg (show mbrF L1 47 0 ≠ p by omega), m3] at h9
      exact h9
    rw [erF, rt]
    generalize mbrF L1 47 0 = x at *
    have ux1 : Us L1 (-1) x := R1.wf.usd m1 (by omega)
    have x0 : L1 0 x ≠ -1 := by omega
    have nxg : x ≠ g := by intro e; subst e; exact x0 g0
    have M0 : grpF L1 p 0 x = L1 0 x := by rw [e0, if_neg (show x ≠ p by omega)]
    have ux : Us (grpF L1 p) g x := ⟨xm, Or.inl (by rw [M0]; exact x0)⟩
    have eux : (if x = g then frT T1 else u x) = u x := if_neg nxg
    have kx := R2.knd x ux
    rw [eux] at kx
    have rx := R1.rng x ux1
    have nrx : u x ≠ -1 := by omega
    rw [if_neg (show x ≠ -1 by omega)]
    by_cases c : (32 ≤ x ∧ x < 47) ∧ aL (grpF L1 p) 5 (x - 32) = axF side
    · obtain ⟨c1', c2⟩ := c
      have c2' := c2
      rw [aL_5 ⟨by omega, by omega⟩] at c2'
      unfold kindL at kx
      rw [if_neg (show ¬ x < 32 by omega), c2'] at kx
      have kf := (knF_ax hsd (axF side)).mpr rfl
      have cc : u x ≠ -1 ∧ nwT T1 p 1 0 (u x) = knF side := ⟨nrx, by rw [kx]; exact kf⟩
      have fx := (F1 x (by omega) (by omega)).2 x0
      have M2 : grpF L1 p 2 x = L1 2 x := by rw [e2, if_neg nxg]
      have kd := R2.kids ux (by omega)
      rw [eux] at kd
      have bb := bhF_b side
      have ab := ah_bh hsd
      have idx : 0 ≤ (if bhF side = 1 then aL (grpF L1 p) 2 x - 1 else 0) ∧ (if bhF side = 1 then aL (grpF L1 p) 2 x - 1 else 0) < grpF L1 p 2 x := by
        rw [aL_2 ⟨by omega, by omega⟩, M2]; split <;> omega
      obtain ⟨n1, n2, n3⟩ := mbrF_get R2.wf.mb (h := x) ⟨by omega, by omega⟩ idx
      have ki := R2.kid ux (by omega) idx
      have eidx : (if ah2 side = 0 then kdT (nwT T1 p 1) (u x) - 1 else 0) = (if bhF side = 1 then aL (grpF L1 p) 2 x - 1 else 0) := by
        rw [kd, aL_2 ⟨by omega, by omega⟩]; grind
      rw [eux] at ki
      rw [if_pos ⟨c1', c2⟩, if_pos cc, eidx, ki]
      generalize hnb : mbrF (grpF L1 p) x (if bhF side = 1 then aL (grpF L1 p) 2 x - 1 else 0) = nb at *
      have nm := R2.wf.mem n1 (by omega)
      have un : Us (grpF L1 p) g nb := R2.wf.usd n1 (by omega)
      have wn := R2.wt nb un (by omega) (by omega)
      have rn := R2.rng nb un
      rw [wn]
      have ehole : aL (grpF L1 p) 1 nb + bhF side = if ah2 side = 0 then grpF L1 p 2 x else 0 := by
        rw [aL_1 n1, n3, aL_2 ⟨by omega, by omega⟩]; grind
      have R3 := R2.insS (w := grpF L1 p 3 nb) (i := if ah2 side = 0 then grpF L1 p 2 x else 0) (by omega) ux (by omega) (by rw [M2]; split <;> omega)
      rw [eux, eug] at R3
      rw [pbF_rt (by rw [aL_0 n1]; exact n2) c1' c2, ehole, aL_3 n1, pL_3 hg', kd]
      have hx' : 16 ≤ x ∧ x < 49 := by omega
      have i0 : ∀ o : Int, up (insF (grpF L1 p) g x (if ah2 side = 0 then grpF L1 p 2 x else 0)) 3 g (grpF L1 p 3 nb) 0 o = if o = g then x else grpF L1 p 0 o := fun o => by rw [up_e, if_neg (by omega), insF_0 hg' hx']
      have i2 : ∀ o : Int, up (insF (grpF L1 p) g x (if ah2 side = 0 then grpF L1 p 2 x else 0)) 3 g (grpF L1 p 3 nb) 2 o = if o = x then grpF L1 p 2 x + 1 else grpF L1 p 2 o := fun o => by rw [up_e, if_neg (by omega), insF_2 hg' hx']
      refine ⟨_, R3, fun y h1 h2 => ?_, fun y h1 h2 => ?_, ok1, by omega, fun _ => rn.1, fun z => absurd cc z⟩
      · have fy := F1 y h1 h2
        rw [i0, i2, e0, e2, e2, if_neg (show y ≠ p by omega)]
        clear e0 e1 e2 e4 ek i0 i2 cl k1 h48 kd
        grind
      · by_cases y0 : 0 ≤ y
        · rw [i0, if_neg (by omega)]; exact cl y h1 h2 y0
        · omega
    · have cn : ¬ (u x ≠ -1 ∧ nwT T1 p 1 0 (u x) = knF side) := by
        rintro ⟨a1, a2⟩
        rw [kx] at a2
        unfold kindL at a2
        by_cases h32 : x < 32
        · rw [if_pos h32, if_neg nxg, M0, m2] at a2
          unfold knF at a2
          rw [if_neg (by omega)] at a2
          split at a2 <;> omega
        · rw [if_neg h32] at a2
          exact c ⟨⟨by omega, xm.2⟩, by rw [aL_5 ⟨by omega, by omega⟩]; exact (knF_ax hsd _).mp a2⟩
      rw [if_neg c, if_neg cn, if_pos nrx]
      have hfs := R1.wf.freeS F1 hr fz.2.2 (M := grpF L1 p) (fun s s1 s2 => by rw [e2, if_neg (by omega)])
      have gp := gpN_eq (L := L1) (M := grpF L1 p) (fun y y1 y2 => by rw [e0, if_neg (by omega)])
      have fr2 := R2.freeN (by rw [gp.1, gp.2]; exact hfs.2.2.2)
      have s2 : grpF L1 p 2 (unuF (grpF L1 p) 32 47) = 0 := by rw [e2, if_neg (by omega)]; exact hfs.2.1
      have s0 : grpF L1 p 0 (unuF (grpF L1 p) 32 47) = -1 := by rw [e0, if_neg (by omega)]; exact hfs.2.2.1
      have R3 := R2.wrap (side := side) (ah := ah2 side) hsd rfl hfs.1 s2 s0 (by omega) ux (by rw [M0]; omega) rfl fr2.1 fr2.2
      rw [eux, eug] at R3
      obtain ⟨v0, v1, v2, v3, v5, vk, -⟩ := wrapF_rows R2.wf (side := side) rfl hfs.1 s2 s0 (by omega) xm (by rw [M0]; omega)
      refine ⟨_, R3, fun y h1 h2 => ?_, fun y h1 h2 => ?_, ok1, by omega, fun z => absurd z cn, fun _ _ => by omega⟩
      · have fy := F1 y h1 h2
        rw [v0, v2, e0, e0, e2, if_neg (show x ≠ p by omega), if_neg (show y ≠ p by omega)]
        clear e0 e1 e2 e4 ek v0 v1 v2 v3 v5 vk cl k1 h48
        grind
      · by_cases y0 : 0 ≤ y
        · rw [v0, if_neg (by omega), if_neg (by omega), if_neg (by omega)]; exact cl y h1 h2 y0
        · omega
  · rw [if_neg hr] at rt
    have z47 : L1 2 47 = 0 := by omega
    have erF : rtF (grpF L1 p) = -1 := by
      refine mbrF_no fun v h1 h2 h3 _ => ?_
      have := R2.wf.mb.rng v h1 h2 (by omega)
      rw [h3, e2, if_neg (by omega), z47] at this
      omega
    rw [erF, rt, if_pos rfl, if_neg (show ¬ ((-1 : Int) ≠ -1 ∧ nwT T1 p 1 0 (-1) = knF side) by intro z; exact z.1 rfl), if_neg (show ¬ ((-1 : Int) ≠ -1) by intro z; exact z rfl)]
    have M47 : grpF L1 p 2 47 = 0 := by rw [e2, if_neg (by omega)]; exact z47
    have hw : 16 ≤ (47 : Int) ∧ (47 : Int) < 49 := by omega
    have R3 := R2.insT (h := 47) (T' := nwT T1 p 1) (L' := insF (grpF L1 p) g 47 0) (by omega) (Or.inl ⟨rfl, M47, rfl⟩) (fun _ _ _ => rfl) (fun o => by
      show _ = if o = (if g = g then frT T1 else u g) then _ else _
      rw [eug, M47, nwT_k (by omega)]; split <;> rfl) (fun _ _ _ _ _ => rfl) (fun k o _ => by rw [M47]) (fun k o hk _ _ => insF_k (by omega) hg' hw o) (fun e => by omega)
    refine ⟨_, R3, fun y h1 h2 => ?_, fun y h1 h2 => ?_, ok1, by omega, fun z => absurd rfl z.1, fun _ z => absurd rfl z⟩
    · have fy := F1 y h1 h2
      rw [insF_0 hg' hw, insF_2 hg' hw, e0, e2, e2, if_neg (show y ≠ p by omega)]
      clear e0 e1 e2 e4 ek cl k1 h48
      grind
    · by_cases y0 : 0 ≤ y
      · rw [insF_0 hg' hw, if_neg (by omega)]; exact cl y h1 h2 y0
      · omega
theorem flF_e (L : Mem) (p x y w h : Int) {T M : Mem} {g : Int} (hT : tkF L p = T) (hg : unuF T 16 32 = g) (hM : insF (grpF T p) g 48 (aL (grpF T p) 2 48) = M) :
    flF L p x y w h = pL (pL (pL (pL M 6 (2 * (g - 16) + 0) x) 6 (2 * (g - 16) + 1) y) 7 (2 * (g - 16) + 0) w) 7 (2 * (g - 16) + 1) h := by subst hT; subst hg; subst hM; rfl
theorem Rl.float (R : Rl u L T (-1) 1) (F : Fu L) {P p x y w h : Int} (hp : 0 ≤ p ∧ p < P) (hP : P ≤ 16) (hc : Cl L P) :
    ∃ u' : Int → Int, Rl u' (flF L p x y w h) (flT T P p x y w h) (-1) 1 ∧ Fu (flF L p x y w h) ∧ Cl (flF L p x y w h) P ∧ okF T P p ∧ flF L p x y w h 2 48 = ctT (tkT T P p) 4 + 1 := by
  obtain ⟨R1, F1, k1, ok1, h48⟩ := R.take F hp hP hc
  have c1 : Cl (tkF L p) P := fun y h1 h2 => by
    by_cases y0 : 0 ≤ y
    · rw [k1 y y0 h2]; have := hc y h1 h2; grind
    · omega
  have lp : tkF L p 0 p = -1 := by rw [k1 p hp.1 (by omega), if_pos rfl]
  have hp16 : 0 ≤ p ∧ p < 16 := by omega
  obtain ⟨R2, hg, g2, g0, hf, hf0⟩ := R1.newG F1 hp16 lp (k := 4) (Or.inr rfl)
  obtain ⟨e0, e1, e2, e4, ek⟩ := grpF_rows R1.wf hp16 hg g2
  have fl := R1.floats
  rw [flF_e L p x y w h rfl rfl rfl]
  unfold flT okF
  generalize tkF L p = L1 at *
  generalize tkT T P p = T1 at *
  generalize unuF L1 16 32 = g at *
  have eug : (if g = g then frT T1 else u g) = frT T1 := if_pos rfl
  have hg' : 0 ≤ g ∧ g < 49 := by omega
  have hw : 16 ≤ (48 : Int) ∧ (48 : Int) < 49 := by omega
  have M48 : grpF L1 p 2 48 = L1 2 48 := by rw [e2, if_neg (by omega)]
  rw [fl, aL_2 ⟨by omega, by omega⟩]
  have pl6 : ∀ (A : Mem) (k : Nat) (i v : Int), 6 ≤ k → k ≤ 7 → 0 ≤ i → i < 32 → pL A k i v = up A k i v := by
    intro A k i v hk hk2 h1 h2
    have : k = 6 ∨ k = 7 := by omega
    rcases this with rfl | rfl <;> exact if_pos ⟨h1, h2⟩
  rw [pl6 _ 6 _ x (by omega) (by omega) (by omega) (by omega), pl6 _ 6 _ y (by omega) (by omega) (by omega) (by omega), pl6 _ 7 _ w (by omega) (by omega) (by omega) (by omega), pl6 _ 7 _ h (by omega) (by omega) (by omega) (by omega)]
  generalize hB : insF (grpF L1 p) g 48 (grpF L1 p 2 48) = B at *
  have B0 : ∀ o : Int, B 0 o = if o = g then 48 else grpF L1 p 0 o := fun o => by rw [← hB, insF_0 hg' hw]
  have B2 : ∀ o : Int, B 2 o = if o = 48 then grpF L1 p 2 48 + 1 else grpF L1 p 2 o := fun o => by rw [← hB, insF_2 hg' hw]
  have Bk : ∀ (k : Nat) (o : Int), 6 ≤ k → B k o = grpF L1 p k o := fun k o hk => by rw [← hB, insF_k (by omega) hg' hw]
  have lo : ∀ (k : Nat) (o : Int), k < 6 → up (up (up (up B 6 (2 * (g - 16) + 0) x) 6 (2 * (g - 16) + 1) y) 7 (2 * (g - 16) + 0) w) 7 (2 * (g - 16) + 1) h k o = B k o := fun k o hk => by
    rw [up_e, up_e, up_e, up_e, if_neg (by omega), if_neg (by omega), if_neg (by omega), if_neg (by omega)]
  have R3 := R2.insT (h := 48) (T' := up (up (up (up (up (nwT T1 p 4) 2 (frT T1) (L1 2 48 + 1 - 1)) 5 (frT T1) x) 6 (frT T1) y) 7 (frT T1) w) 8 (frT T1) h)
    (L' := up (up (up (up B 6 (2 * (g - 16) + 0) x) 6 (2 * (g - 16) + 1) y) 7 (2 * (g - 16) + 0) w) 7 (2 * (g - 16) + 1) h) (by omega) (Or.inr ⟨rfl, rfl⟩)
    (fun k o hk => by rw [up_e, up_e, up_e, up_e, up_e, if_neg (by omega), if_neg (by omega), if_neg (by omega), if_neg (by omega), if_neg (by omega)])
    (fun o => by
      show _ = if o = (if g = g then frT T1 else u g) then _ else _
      rw [eug, M48, up_e, up_e, up_e, up_e, up_e, if_neg (by omega), if_neg (by omega), if_neg (by omega), if_neg (by omega)]
      by_cases z : o = frT T1
      · rw [if_pos ⟨rfl, z⟩, if_pos z]; omega
      · rw [if_neg (fun y => z y.2), if_neg z])
    (fun k o h1 h2 hn => by
      have hn : o ≠ frT T1 := by intro e; apply hn; show o = (if g = g then frT T1 else u g); rw [eug, e]
      rw [up_e, up_e, up_e, up_e, up_e, if_neg (fun z => hn z.2), if_neg (fun z => hn z.2), if_neg (fun z => hn z.2), if_neg (fun z => hn z.2), if_neg (fun z => hn z.2)])
    (fun k o hk => by rw [lo k o hk, hB])
    (fun k o hk h1 h2 => by rw [up_e, up_e, up_e, up_e, if_neg (by omega), if_neg (by omega), if_neg (by omega), if_neg (by omega), Bk k o hk])
    (fun _ => by
      show up _ 8 (frT T1) h 5 (if g = g then frT T1 else u g) = _ ∧ up _ 8 (frT T1) h 6 (if g = g then frT T1 else u g) = _ ∧ up _ 8 (frT T1) h 7 (if g = g then frT T1 else u g) = _ ∧ up _ 8 (frT T1) h 8 (if g = g then frT T1 else u g) = _
      rw [eug]
      refine ⟨?_, ?_, ?_, ?_⟩ <;> simp only [up_e] <;> grind)
  refine ⟨_, R3, fun z h1 h2 => ?_, fun z h1 h2 => ?_, ⟨ok1, by omega⟩, ?_⟩
  · have fy := F1 z h1 h2
    rw [lo 0 _ (by omega), lo 2 _ (by omega), B0, B2, e0, e2, e2, if_neg (show z ≠ p by omega)]
    clear e0 e1 e2 e4 ek k1 h48 B0 B2 Bk lo pl6 R3
    grind
  · rw [lo 0 _ (by omega), B0, if_neg (show z ≠ g by omega), e0]
    have := c1 z h1 h2
    grind
  · rw [lo 2 _ (by omega), B2, if_pos rfl, M48]
end RL
