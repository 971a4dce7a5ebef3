/-! the law's run, evaluated: calls whose way doesn't hang on their arguments -/
set_option maxHeartbeats 40000000 in
set_option maxRecDepth 100000 in
theorem x_go3 (xs : Nat → Int32) (f g : Nat → Value) : x_go xs f g 3 := ⟨_, 100, fun n => rfl⟩
set_option maxHeartbeats 40000000 in
set_option maxRecDepth 100000 in
theorem x_goN (xs : Nat → Int32) (f g : Nat → Value) (k : Nat) (h : 10 ≤ k) (h' : k < 16) : x_go xs f g (Int32.ofNat k) := by
  have z : k = 10 ∨ k = 11 ∨ k = 12 ∨ k = 13 ∨ k = 14 ∨ k = 15 := by omega
  rcases z with rfl | rfl | rfl | rfl | rfl | rfl
  all_goals exact ⟨_, 100, fun n => rfl⟩
