/-! THE LAW'S ROWS AND THE CLASS TELL THE SAME: groups, floating groups, the whole -/
theorem Ly.low21 {mu : Mem} {w : Nat} {L : Mem} {P : Int} (A : Lr mu w L P (-1)) (H : Ly L P) {x : Int} (hx : 16 ≤ x ∧ x < 32) (h0 : L 0 x ≠ -1) : x < 21 := by
  have f := ((H.fu x hx.1 (by omega)).2 h0).1
  obtain ⟨t, t1, t2, t3, t4⟩ := H.wf.mb.sur x 0 hx.1 (by omega) (by omega) (by omega)
  have := H.pan9 hx ⟨t1, t2⟩ t3
  have := A.low t t1 this
  omega
theorem piG_j {mu : Mem} {w : Nat} {L : Mem} {P : Int} (A : Lr mu w L P (-1)) (H : Ly L P) (s : Int) : ∀ n : Nat, (n : Int) ≤ P → piG L s n = jNG2 mu w s n
  | 0, _ => rfl
  | n + 1, h => by
    have ih := piG_j A H s n (by omega)
    have st := (A.stt9 H (a := n) ⟨by omega, by omega⟩).1
    unfold piG jNG2
    rw [st, ih]
    by_cases q : jX mu w n = s
    · rw [if_pos q, if_pos q]
    · rw [if_neg q, if_neg q, Int.add_zero]
theorem whF_07 (mu : Mem) (c p : Nat) : whF mu c p 0 = mu c 0 ∧ whF mu c p 1 = mu c 1 ∧ whF mu c p 2 = mu c 2 ∧ whF mu c p 3 = piG (lay mu (c + 2)) 1 (mu c 2).toNat ∧ whF mu c p 4 = piG (lay mu (c + 2)) 2 (mu c 2).toNat ∧ whF mu c p 5 = mu p 9 - mu p 10 ∧ whF mu c p 6 = mu p 10 ∧ whF mu c p 7 = gL (lay mu (c + 2)) 2 48 := by simp [whF]
theorem Al.all {mu : Mem} {w c p : Nat} (A : Al mu w c p) :
    (∀ i : Int, 0 ≤ i → i < mu w 3 → mu (w + 1) (3 * i) = 1 → (0 ≤ mu (w + 1) (3 * i + 2) ∧ mu (w + 1) (3 * i + 2) < 5) ∧ gL (lay mu (c + 2)) 4 (tnF (pl mu p) (jGG (mu (w + 1)) i.toNat) - 16) = mu (w + 2) (20 + mu (w + 1) (3 * i + 2))) ∧
    (∀ k : Int, 0 ≤ k → k < mu w 4 → (0 ≤ mu (w + 3) k ∧ mu (w + 3) k < 5) ∧ gL (lay mu (c + 2)) 4 (mbrF (lay mu (c + 2)) 48 k - 16) = mu (w + 2) (20 + mu (w + 3) k)) ∧
    gL (lay mu (c + 2)) 4 (tnF (pl mu p) (jG mu w) - 16) = -1 ∧ gL (lay mu (c + 2)) 4 (mbrF (lay mu (c + 2)) 48 (mu w 4) - 16) = -1 ∧
    whF mu c p 0 = mu w 0 ∧ whF mu c p 1 = mu w 1 ∧ whF mu c p 2 = mu w 2 ∧ whF mu c p 3 = jNG2 mu w 1 (mu w 2).toNat ∧ whF mu c p 4 = jNG2 mu w 2 (mu w 2).toNat ∧ whF mu c p 5 = jG mu w ∧ whF mu c p 6 = jZG (mu (w + 1)) (mu w 3).toNat ∧ whF mu c p 7 = mu w 4 ∧
    (0 ≤ mu w 2 ∧ mu w 2 ≤ 5) ∧ (0 ≤ mu w 3 ∧ mu w 3 ≤ 13) ∧ 0 ≤ mu w 4 ∧ mu w 4 ≤ 5 := by
  obtain ⟨B, H, hd, -, ⟨rk, K, E⟩⟩ := A
  have m13 := B.m13 H
  obtain ⟨o, c', S⟩ := B.sg
  have p5 := H.p5
  have np := B.np
  have fl := B.flo
  have W := H.wf
  have O := E.p0.od
  have cn := H.cnt
  have n47 := W.mb.nng 47 (by omega) (by omega)
  have n48 := W.mb.nng 48 (by omega) (by omega)
  obtain ⟨c1, c2⟩ := S.cnt W H.fu K O
  have e9 : pl mu p 0 9 = mu p 9 := rfl
  have e10 : pl mu p 0 10 = mu p 10 := rfl
  obtain ⟨w0, w1, w2, w3, w4, w5, w6, w7⟩ := whF_07 mu c p
  rw [np]
  refine ⟨fun i i1 i2 q => ?_, fun k k1 k2 => ?_, ?_, ?_, by rw [w0, hd.1], by rw [w1, hd.2], w2, by rw [w3]; exact piG_j B H 1 _ (by omega), by rw [w4]; exact piG_j B H 2 _ (by omega), ?_, ?_, by rw [w7, gL2 ⟨by omega, by omega⟩, fl], p5, ⟨m13.1, m13.2.1⟩, by omega⟩
  · obtain ⟨t1, t2, t3⟩ := S.tn W H.fu K O i1 i2 q
    have b := t2.1
    have l := Ly.low21 B H ⟨b.1, t3⟩ t2.2.1
    have ac := B.act _ b.1 l (Or.inl t2.2.1)
    rw [t1, gL4 ⟨by omega, by omega⟩, ← ac]
    exact ⟨⟨by omega, by omega⟩, by rw [show 20 + mu (w + 1) (3 * i + 2) = 4 + (mu (w + 1) (3 * i + 2) + 16) by omega]⟩
  · obtain ⟨m1, m2, m3⟩ := mbrF_get W.mb (h := 48) (i := k) ⟨by omega, by omega⟩ ⟨k1, by omega⟩
    generalize mbrF (lay mu (c + 2)) 48 k = t at *
    have tm := W.mem m1 (by omega)
    have t32 : t < 32 := by
      rcases Int.lt_or_le t 32 with z | z
      · exact z
      · have := W.spl t z tm.2
        omega
    have l := Ly.low21 B H ⟨tm.1, t32⟩ (by omega)
    have f := B.fli t tm.1 tm.2 m2
    have ac := B.act t tm.1 l (Or.inl (by omega))
    rw [m3] at f
    rw [f, gL4 ⟨by omega, by omega⟩, ← ac]
    exact ⟨⟨by omega, by omega⟩, by rw [show 20 + (t - 16) = 4 + t by omega]⟩
  · have t := S.tnN W H.fu K O
    unfold jG
    rw [t]
    exact gLn _ _ ⟨by omega, by omega⟩
  · rw [mbrF_out W.mb (by omega) (Or.inr (by omega))]
    exact gLn _ _ ⟨by omega, by omega⟩
  · rw [w5, ← e9, ← e10]
    exact c2
  · rw [w6, ← e10]
    exact c1
