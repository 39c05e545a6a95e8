/-! ALL IS AS THE ROWS TELL -/
section SO
variable {G : Gx} {l : Launch} {S : Sh} {n : Nat} {mu : Mem} {la : Lam} {a c h t p b q w : Nat}
theorem pn9 {x : Int} (hx : 0 ≤ x ∧ x < mu c 2) : pnF mu c x = 1 := if_pos hx
theorem l_paneOk (hG : GP G) (hD : DoS S a c h t p b q) (hW : Wo mu c h t p) (hL : LwS S w) (A : Al mu w c p) {x : Int} (hx : 0 ≤ x ∧ x < mu w 2) :
    Ct G l yL_isPane wsL_isPane 9 0 0 [.ref a, .ref w, .ref (w + 1), .ref (w + 2), .int (I32 x)] S n mu la (Dt (some (.int (I32 1))) S n mu la) := by
  have np := A.lr.np
  have p5 := A.ly.p5
  have hx' : 0 ≤ x ∧ x < mu c 2 := ⟨hx.1, by omega⟩
  obtain ⟨⟨h0, h1, h2⟩, hc, d, xx, N, q', jj, ho⟩ := A.pane hx'
  obtain ⟨-, -, -, -, -, -, -, -, -, -, -, -, b2, b3, b4⟩ := A.all
  refine l_isPane hG hD.1 hL hW.1 hx b2.2 ⟨b3.1, by omega⟩ (f1 := 4) (f2 := 2) (f3 := 4) ⟨by omega, by omega, by omega⟩ (pv := fun y => paF mu c p x y) (tv := fun y => tabF (lay mu (c + 2)) x y) (sv := fun k y => spvF (lay mu (c + 2)) (pl mu p) x k y)
    (fun y y1 y2 => k_pane hG hD hW ⟨by omega, by omega⟩ ⟨by omega, by omega⟩ (by unfold ppF frF; rw [if_pos (pn9 hx'), if_pos ⟨y1, y2⟩]))
    (fun y y1 y2 => k_tab hG hD hW ⟨by omega, by omega⟩ ⟨by omega, by omega⟩ (by unfold ftbF fiF; rw [if_pos (pn9 hx'), if_pos y1]))
    (fun y z y1 y2 z1 z2 => k_split hG hD hW ⟨by omega, by omega⟩ ⟨by omega, by omega⟩ ⟨by omega, by omega⟩ (by unfold fspF fsF; rw [if_pos (pn9 hx'), if_pos ⟨y1, z1, z2⟩]))
    h0 h1 h2 hc rfl rfl ho
theorem l_soOk (hG : GP G) (hD : DoS S a c h t p b q) (hW : Wo mu c h t p) (hL : LwS S w) (A : Al mu w c p) :
    Ct G l yL_isSo wsL_isSo 11 0 0 [.ref a, .ref w, .ref (w + 1), .ref (w + 2), .ref (w + 3)] S n mu la (Dt (some (.int (I32 1))) S n mu la) := by
  obtain ⟨hgv, hfv, hg9, hf9, w0, w1, w2, w3, w4, w5, w6, w7, b2, b3, b4⟩ := A.all
  refine l_isSo hG hD.1 hL hW.1 b2 ⟨b3.1, by omega⟩ b4 (f1 := 2) (f2 := 2) (f3 := 3) ⟨by omega, by omega, by omega⟩ (gv := fun x => gL (lay mu (c + 2)) 4 (tnF (pl mu p) x - 16)) (fv := fun x => gL (lay mu (c + 2)) 4 (mbrF (lay mu (c + 2)) 48 x - 16)) (wv := fun x => whF mu c p x)
    (fun x x1 x2 => l_paneOk hG hD hW hL A ⟨x1, x2⟩)
    (fun x x1 x2 => k_group hG hD hW ⟨by omega, by omega⟩ (if_pos x1))
    (fun x x1 x2 => k_floating hG hD hW ⟨by omega, by omega⟩ (if_pos x1))
    (fun x x1 x2 => k_whole hG hD hW (if_pos ⟨x1, x2⟩))
    hgv hfv hg9 hf9 w0 w1 w2 w3 w4 w5 w6 w7
end SO
