/-! LAYING OUT at another size -/
section LA
variable {N : Int} {mu : Mem} {c h t p b q r : Nat}
/-- laying out changes nothing that counts -/
theorem Inv.layA (O : Od c h t p b q r) (A : Inv N mu c h t p b r) (hN : 0 ≤ N ∧ N ≤ 10000000) {w9 h9 : Int} (hw9 : -2147483648 ≤ w9 ∧ w9 ≤ 2147483647) (hh9 : -2147483648 ≤ h9 ∧ h9 ≤ 2147483647) (ok : LyOk mu r (trT mu r) (zOf mu r) w9 h9) {k : Int} (hk : 0 ≤ k ∧ k ≤ 3) :
    Inv N (up (lyA mu r w9 h9) r 7 k) c h t p b r ∧ up (lyA mu r w9 h9) r 7 k r 7 = k ∧ R32Z (laZ mu r (trT mu r) (zOf mu r) w9 h9) := by
  have mw := A.mw hN
  have hZ : R32Z (laZ mu r (trT mu r) (zOf mu r) w9 h9) := laZ_R A.2 (zOf_R A.2 r) mw.2.1 (by omega) hw9 hh9 ok.2.2
  have hq := ok.2.1
  have R1 : R32 (lyA mu r w9 h9) := lyM_R A.2 hZ mw.2.1 (by omega) (q := qW mu r) (by show -2147483648 ≤ (quT (trT mu r) (zOf mu r)).1 ∧ (quT (trT mu r) (zOf mu r)).1 ≤ 2147483647; omega)
  have e : ∀ (x : Nat) (i : Int), (x < r ∨ (r < x ∧ x < r + 6) ∨ (x = r ∧ i ≠ 9)) → lyA mu r w9 h9 x i = mu x i := fun x i hx => by
    show ptT (zM mu r (qW mu r) (laZ mu r (trT mu r) (zOf mu r) w9 h9)) r (trT mu r) x i = _
    have z : ∀ (y : Nat) (j : Int), (y < r ∨ (r < y ∧ y < r + 6) ∨ (y = r ∧ j ≠ 9)) → zM mu r (qW mu r) (laZ mu r (trT mu r) (zOf mu r) w9 h9) y j = mu y j := fun y j hy => by
      unfold zM; rw [if_neg (by omega), if_neg (by omega)]
    by_cases y : x = r + 1
    · subst y
      rw [ptT_1, show zM mu r (qW mu r) (laZ mu r (trT mu r) (zOf mu r) w9 h9) (r + 1) = mu (r + 1) from funext fun j => z _ _ (by omega), trS_T, ptS_self]
    · rw [ptT_x _ _ _ y, z x i hx]
  have R2 : R32 (up (lyA mu r w9 h9) r 7 k) := R32_up R1 _ _ (by omega)
  refine ⟨⟨?_, R2⟩, by rw [up_e, if_pos ⟨rfl, rfl⟩], hZ⟩
  have e' : ∀ (x : Nat) (i : Int), (x < r ∨ (r < x ∧ x < r + 6) ∨ (x = r ∧ i < 7)) → up (lyA mu r w9 h9) r 7 k x i = mu x i := fun x i hx => by
    rw [up_e, if_neg (by omega), e x i (by omega)]
  rw [e' r 4 (by omega), e' r 6 (by omega)]
  refine A.1.off O (fun x i hx => e' x i (by omega)) (fun i h1 h2 => e' _ i (by omega)) (fun i h1 h2 => e' _ i (by omega)) (fun i h1 h2 => e' _ i (by omega))
end LA
