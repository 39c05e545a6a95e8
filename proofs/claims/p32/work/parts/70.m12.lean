/-! docking, at an edge, floating -/
theorem knF_ax {side : Int} (h : 0 ≤ side ∧ side ≤ 3) (a : Int) : a + 2 = knF side ↔ a = axF side := by unfold knF axF; grind
theorem ah_bh {side : Int} (h : 0 ≤ side ∧ side ≤ 3) : ah2 side = 1 - bhF side := by unfold ah2 bhF; grind
section RL
variable {u : Int → Int} {L T : Mem} {q kq : Int}
/-- a split is free where there is a root -/
theorem Wf.freeS (W : Wf L (-1)) (F : Fu L) (hr : L 2 47 = 1) (hg : gpN L ≤ 15) {M : Mem} (hM : ∀ s : Int, 32 ≤ s → s < 47 → M 2 s = L 2 s) :
    (32 ≤ unuF M 32 47 ∧ unuF M 32 47 < 47) ∧ L 2 (unuF M 32 47) = 0 ∧ L 0 (unuF M 32 47) = -1 ∧ gpN L + spN L ≤ 30 := by
  have c := W.cntN F
  have n48 := W.mb.nng 48 (by omega) (by omega)
  rcases unuG_get (L := M) (e := 47) 15 with ⟨h1, h2⟩ | ⟨h1, h2⟩
  · have b := smG_ge (fun i => if L 0 (i + 32) = -1 then 0 else 1) 1 15 (fun i i1 i2 => by
      have a := h2 (i + 32) (by omega) (by omega)
      rw [hM _ (by omega) (by omega)] at a
      have f := F (i + 32) (by omega) (by omega)
      show (1 : Int) ≤ (if L 0 (i + 32) = -1 then 0 else 1)
      grind)
    have e : smG (fun i => if L 0 (i + 32) = -1 then 0 else 1) 15 = spN L := rfl
    omega
  · have r : 32 ≤ unuF M 32 47 ∧ unuF M 32 47 < 47 := ⟨by have := h1.1; show 32 ≤ unuG M 47 15; omega, h1.2⟩
    have z : M 2 (unuF M 32 47) = 0 := h2
    rw [hM _ r.1 r.2] at z
    have f := F _ (show 16 ≤ unuF M 32 47 by omega) r.2
    refine ⟨r, z, ?_, by omega⟩
    by_cases y : L 0 (unuF M 32 47) = -1
    · exact y
    · have := f.2 y; omega
theorem gpN_eq {L M : Mem} (h : ∀ x : Int, 16 ≤ x → x < 47 → M 0 x = L 0 x) : gpN M = gpN L ∧ spN M = spN L :=
  ⟨smG_ext 16 (fun o h1 h2 => by show (if M 0 (o + 16) = -1 then (0 : Int) else 1) = _; rw [h _ (by omega) (by omega)]), smG_ext 15 (fun o h1 h2 => by show (if M 0 (o + 32) = -1 then (0 : Int) else 1) = _; rw [h _ (by omega) (by omega)])⟩
/-- docking beside a node: putBeside -/
theorem Rl.beside {L1 T1 : Mem} (R : Rl u L1 T1 (-1) 1) (F : Fu L1) {p P x side : Int} (hp : 0 ≤ p ∧ p < 16) (h : L1 0 p = -1) (hsd : 0 ≤ side ∧ side ≤ 3) (hx : Us L1 (-1) x) (h48 : L1 0 x ≠ 48) (hc : Cl L1 P) (hpP : p < P) :
    ∃ u' : Int → Int, Rl u' (pbF (grpF L1 p) (unuF L1 16 32) x side)
      (if nwT T1 p 1 1 (u x) ≠ -1 ∧ nwT T1 p 1 0 (nwT T1 p 1 1 (u x)) = knF side then ciT (nwT T1 p 1) (nwT T1 p 1 1 (u x)) (frT T1) (nwT T1 p 1 2 (u x) + (if ah2 side = 0 then 1 else 0)) (nwT T1 p 1 3 (u x)) else prT (nwT T1 p 1) (u x) (frT T1) (knF side) (ah2 side)) (-1) 1 ∧
      Fu (pbF (grpF L1 p) (unuF L1 16 32) x side) ∧ Cl (pbF (grpF L1 p) (unuF L1 16 32) x side) P ∧ frT T1 ≠ -1 ∧ frT (nwT T1 p 1) ≠ -1 ∧
      pbF (grpF L1 p) (unuF L1 16 32) x side 0 p = unuF L1 16 32 ∧ pbF (grpF L1 p) (unuF L1 16 32) x side 2 (unuF L1 16 32) = 1 := by
  obtain ⟨R2, hg, g2, g0, hf, hf0⟩ := R.newG F hp h (k := 1) (Or.inl rfl)
  obtain ⟨e0, e1, e2, e4, ek⟩ := grpF_rows R.wf hp hg g2
  have fz := R.wf.freeG F hp h
  have hr := R.wf.rootE hx h48
  generalize unuF L1 16 32 = g at *
  have bx := hx.1
  have x0 : L1 0 x ≠ -1 := by have := hx.2; omega
  have nxg : x ≠ g := by intro e; subst e; exact x0 g0
  have M0 : grpF L1 p 0 x = L1 0 x := by rw [e0, if_neg (show x ≠ p by omega)]
  have M1 : grpF L1 p 1 x = L1 1 x := by rw [e1, if_neg (show x ≠ p by omega)]
  have M3 : grpF L1 p 3 x = L1 3 x := ek 3 _ (by omega)
  have ux : Us (grpF L1 p) g x := ⟨bx, Or.inl (by rw [M0]; exact x0)⟩
  have eux : (if x = g then frT T1 else u x) = u x := if_neg nxg
  have eug : (if g = g then frT T1 else u g) = frT T1 := if_pos rfl
  have hfs := R.wf.freeS F hr fz.2.2 (M := grpF L1 p) (fun s s1 s2 => by rw [e2, if_neg (by omega)])
  have par := R2.par x ux
  have pos := R2.pos x ux nxg
  rw [eux, M0] at par
  rw [eux, M1] at pos
  have hol : 32 ≤ L1 0 x ∧ L1 0 x < 48 := by
    have a1 := R.wf.grp x
    have a2 := R.wf.spl x
    omega
  have gp := gpN_eq (L := L1) (M := grpF L1 p) (fun y y1 y2 => by rw [e0, if_neg (by omega)])
  have fr2 := R2.freeN (by rw [gp.1, gp.2]; exact hfs.2.2.2)
  have mx := R.wf.mb.rng x (by omega) (by omega) x0
  have cl : ∀ y : Int, P ≤ y → y < 16 → 0 ≤ y → grpF L1 p 0 y = -1 := by
    intro y h1 h2 h3; rw [e0]; have := hc y h1 h2; grind
  unfold pbF
  rw [aL_0 ⟨by omega, by omega⟩, aL_1 ⟨by omega, by omega⟩, aL_3 ⟨by omega, by omega⟩, M0, M1, M3]
  by_cases c : (32 ≤ L1 0 x ∧ L1 0 x < 47) ∧ aL (grpF L1 p) 5 (L1 0 x - 32) = axF side
  · obtain ⟨c1, c2⟩ := c
    rw [if_pos c1] at par
    have uh0 := R.hus hx.1 c1
    have nhg : L1 0 x ≠ g := by omega
    have hh0 : L1 0 (L1 0 x) ≠ -1 := by have := uh0.2; omega
    have uh : Us (grpF L1 p) g (L1 0 x) := ⟨uh0.1, Or.inl (by rw [e0, if_neg (by omega)]; exact hh0)⟩
    have euh : (if L1 0 x = g then frT T1 else u (L1 0 x)) = u (L1 0 x) := if_neg nhg
    have par' : nwT T1 p 1 1 (u x) = u (L1 0 x) := by rw [par]; exact euh
    have rh := R.rng _ uh0
    have kh := R2.knd _ uh
    have wt := R2.wt x ux (by rw [M0]; omega) (by rw [M0]; omega)
    rw [euh] at kh
    rw [eux, M3] at wt
    rw [aL_5 ⟨by omega, by omega⟩] at c2
    unfold kindL at kh
    rw [if_neg (show ¬ L1 0 x < 32 by omega), c2] at kh
    have kf := (knF_ax hsd (axF side)).mpr rfl
    rw [par', pos, wt, if_pos ⟨⟨c1.1, c1.2⟩, by rw [aL_5 ⟨by omega, by omega⟩]; exact c2⟩, if_pos ⟨by omega, by omega⟩]
    have ebh : bhF side = (if ah2 side = 0 then 1 else 0) := by rw [ah_bh hsd]; have := bhF_b side; grind
    have hi : 0 ≤ L1 1 x + bhF side ∧ L1 1 x + bhF side ≤ grpF L1 p 2 (L1 0 x) := by
      have := bhF_b side
      rw [e2, if_neg nhg]; omega
    have R3 := R2.insS (w := L1 3 x) (i := L1 1 x + bhF side) (by omega) uh (by omega) hi
    rw [euh, eug] at R3
    rw [pL_3 ⟨by omega, by omega⟩, ← ebh]
    have hg' : 0 ≤ g ∧ g < 49 := by omega
    have hh' : 16 ≤ L1 0 x ∧ L1 0 x < 49 := by omega
    have i0 : ∀ o : Int, up (insF (grpF L1 p) g (L1 0 x) (L1 1 x + bhF side)) 3 g (L1 3 x) 0 o = if o = g then L1 0 x else grpF L1 p 0 o := fun o => by rw [up_e, if_neg (by omega), insF_0 hg' hh']
    have i2 : ∀ o : Int, up (insF (grpF L1 p) g (L1 0 x) (L1 1 x + bhF side)) 3 g (L1 3 x) 2 o = if o = L1 0 x then grpF L1 p 2 (L1 0 x) + 1 else grpF L1 p 2 o := fun o => by rw [up_e, if_neg (by omega), insF_2 hg' hh']
    refine ⟨_, R3, fun y h1 h2 => ?_, fun y h1 h2 => ?_, by omega, by omega, ?_, ?_⟩
    · have fy := F y h1 h2
      have fh := F (L1 0 x) (by omega) (by omega)
      rw [i0, i2, e0, e2, e2]
      clear e0 e1 e2 e4 ek i0 i2 cl
      grind
    · by_cases y0 : 0 ≤ y
      · rw [i0, if_neg (by omega)]; exact cl y h1 h2 y0
      · omega
    · rw [i0, if_neg (by omega), e0, if_pos rfl]
    · rw [i2, if_neg (by omega), e2, if_pos rfl]
  · have cn : ¬ (nwT T1 p 1 1 (u x) ≠ -1 ∧ nwT T1 p 1 0 (nwT T1 p 1 1 (u x)) = knF side) := by
      rintro ⟨a1, a2⟩
      by_cases c1 : 32 ≤ L1 0 x ∧ L1 0 x < 47
      · rw [if_pos c1] at par
        have uh0 := R.hus hx.1 c1
        have nhg : L1 0 x ≠ g := by omega
        have hh0 : L1 0 (L1 0 x) ≠ -1 := by have := uh0.2; omega
        have uh : Us (grpF L1 p) g (L1 0 x) := ⟨uh0.1, Or.inl (by rw [e0, if_neg (by omega)]; exact hh0)⟩
        have kh := R2.knd _ uh
        rw [par, kh] at a2
        unfold kindL at a2
        rw [if_neg (show ¬ L1 0 x < 32 by omega)] at a2
        exact c ⟨c1, by rw [aL_5 ⟨by omega, by omega⟩]; exact (knF_ax hsd _).mp a2⟩
      · rw [if_neg c1] at par
        exact a1 par
    rw [if_neg c, if_neg cn]
    have s2 : grpF L1 p 2 (unuF (grpF L1 p) 32 47) = 0 := by rw [e2, if_neg (by omega)]; exact hfs.2.1
    have s0 : grpF L1 p 0 (unuF (grpF L1 p) 32 47) = -1 := by rw [e0, if_neg (by omega)]; exact hfs.2.2.1
    have R3 := R2.wrap (side := side) (ah := ah2 side) hsd rfl hfs.1 s2 s0 (by omega) ux (by rw [M0]; exact hol) rfl fr2.1 fr2.2
    rw [eux, eug] at R3
    obtain ⟨w0, w1, w2, w3, w5, wk, -⟩ := wrapF_rows R2.wf (side := side) rfl hfs.1 s2 s0 (by omega) bx (by rw [M0]; exact hol)
    refine ⟨_, R3, fun y h1 h2 => ?_, fun y h1 h2 => ?_, by omega, by omega, ?_, ?_⟩
    · have fy := F y h1 h2
      rw [w0, w2, e0, e0, e2, if_neg (show x ≠ p by omega), if_neg (show y ≠ p by omega)]
      clear e0 e1 e2 e4 ek w0 w1 w2 w3 w5 wk cl
      grind
    · by_cases y0 : 0 ≤ y
      · rw [w0, if_neg (by omega), if_neg (by omega), if_neg (by omega)]; exact cl y h1 h2 y0
      · omega
    · rw [w0, if_neg (by omega), if_neg (by omega), if_neg (by omega), e0, if_pos rfl]
    · rw [w2, if_neg (by omega), e2, if_pos rfl]
theorem Rl.dock (R : Rl u L T (-1) 1) (F : Fu L) {P p t side : Int} (hp : 0 ≤ p ∧ p < P) (ht : 0 ≤ t ∧ t < P) (hpt : p ≠ t) (hsd : 0 ≤ side ∧ side ≤ 4) (hP : P ≤ 16) (hc : Cl L P) (hst : sttF L t = 1 ∨ (sttF L t = 2 ∧ side = 4)) :
    ∃ u' : Int → Int, Rl u' (dkF L p t side) (dkT T P p t side) (-1) 1 ∧ Fu (dkF L p t side) ∧ Cl (dkF L p t side) P ∧ okD T P p t side ∧ dkF L p t side 2 (dkF L p t side 0 p) = dkA T P p t side := by
  obtain ⟨R1, F1, k1, ok1, h48⟩ := R.take F hp hP hc
  have t0 : L 0 t ≠ -1 := by
    intro e
    unfold sttF at hst
    rw [aL_0 ⟨ht.1, by omega⟩, if_pos e] at hst
    omega
  have c1 : Cl (tkF L p) P := fun y h1 h2 => by
    by_cases y0 : 0 ≤ y
    · rw [k1 y y0 h2]; have := hc y h1 h2; grind
    · omega
  have lt : tkF L p 0 t = L 0 t := by rw [k1 t ht.1 (by omega), if_neg (fun e => hpt e.symm)]
  have lp : tkF L p 0 p = -1 := by rw [k1 p hp.1 (by omega), if_pos rfl]
  have pt := R1.pan t ht.1 (by omega)
  have lt0 : tkF L p 0 t ≠ -1 := by rw [lt]; exact t0
  rw [if_neg lt0] at pt
  have ug := R1.pus ⟨ht.1, by omega⟩ lt0
  have gr := R1.wf.pan t ht.1 (by omega)
  have rg := R1.rng _ ug
  unfold dkF dkT okD dkA
  rw [aL_0 ⟨ht.1, by omega⟩, pt]
  by_cases s4 : side = 4
  · have tb := R1.tabs ug (by omega) ⟨by omega, hP⟩ c1
    have R2 := R1.insP ⟨hp.1, by omega⟩ lp ug (by omega)
    have hp' : 0 ≤ p ∧ p < 49 := by omega
    have hg' : 16 ≤ tkF L p 0 t ∧ tkF L p 0 t < 49 := by omega
    have i0 := fun o => insF_0 (L := tkF L p) (i := tkF L p 2 (tkF L p 0 t)) hp' hg' o
    have i2 := fun o => insF_2 (L := tkF L p) (i := tkF L p 2 (tkF L p 0 t)) hp' hg' o
    generalize tkF L p 0 t = g at *
    have ug2 : Us (insF (tkF L p) p g (tkF L p 2 g)) (-1) g := ⟨ug.1, by rw [i0]; have := ug.2; grind⟩
    have R3 := R2.actv (v := p) ug2 (by omega)
    rw [if_pos s4, if_pos s4, if_pos s4, tb, aL_2 ⟨by omega, by omega⟩, pL_4 ⟨by omega, by omega⟩]
    have j0 : ∀ o : Int, up (insF (tkF L p) p g (tkF L p 2 g)) 4 (g - 16) p 0 o = if o = p then g else tkF L p 0 o := fun o => by rw [up_e, if_neg (by omega), i0]
    have j2 : ∀ o : Int, up (insF (tkF L p) p g (tkF L p 2 g)) 4 (g - 16) p 2 o = if o = g then tkF L p 2 g + 1 else tkF L p 2 o := fun o => by rw [up_e, if_neg (by omega), i2]
    refine ⟨u, R3, fun y h1 h2 => ?_, fun y h1 h2 => ?_, ⟨ok1, by omega, fun e => absurd s4 e⟩, ?_⟩
    · have fy := F1 y h1 h2
      have u2 := ug.2
      rw [j0, j2, if_neg (show y ≠ p by omega)]
      clear i0 i2 j0 j2 k1
      grind
    · rw [j0, if_neg (show y ≠ p by omega)]; exact c1 y h1 h2
    · rw [j0, if_pos rfl, j2, if_pos rfl]
  · have hx48 : tkF L p 0 (tkF L p 0 t) ≠ 48 := by
      have st1 : sttF L t = 1 := by omega
      unfold sttF at st1
      rw [aL_0 ⟨ht.1, by omega⟩, if_neg t0, aL_0 ⟨by omega, by omega⟩] at st1
      have n := h48 (tkF L p 0 t) (by omega) (by omega) (by have := ug.2; omega)
      rw [lt] at n ⊢
      intro e
      rw [if_pos (n.mp e)] at st1
      omega
    obtain ⟨u', B1, B2, B3, B4, B5, B6, B7⟩ := R1.beside F1 ⟨hp.1, by omega⟩ lp (show 0 ≤ side ∧ side ≤ 3 by omega) ug hx48 c1 hp.2
    rw [if_neg s4, if_neg s4, if_neg s4]
    exact ⟨u', B1, B2, B3, ⟨ok1, by omega, fun _ => ⟨B4, fun _ => B5⟩⟩, by rw [B6, B7]⟩
end RL
