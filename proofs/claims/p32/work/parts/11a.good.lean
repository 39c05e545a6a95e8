theorem goodIn_s {big : List Cond} (ws : List Cond) (ps : List (Nat × Nat)) (hp : ws = ps.flatMap (fun p => (big.drop p.1).take p.2)) (h : ws.all goodWord = true) : GoodIn big ws := by
  intro w hw
  have h1 := List.all_eq_true.mp h w hw
  rw [hp] at hw
  obtain ⟨p, -, hi⟩ := List.mem_flatMap.mp hw
  exact ⟨List.mem_of_mem_drop (List.mem_of_mem_take hi), good_of_word h1⟩
