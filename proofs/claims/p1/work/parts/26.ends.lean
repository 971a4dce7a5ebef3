/-! the law's run on a script of at most six ints comes to its end with 1; made by wip/whole/gen/ops.py -/
theorem x_six (xs : Nat → Int32) (f g : Nat → Value) (k : Nat) (hk : k < 16) : x_go xs f g (Int32.ofNat k) := by
  have z : k = 0 ∨ k = 1 ∨ k = 2 ∨ k = 3 ∨ k = 4 ∨ k = 5 ∨ k = 6 ∨ k = 7 ∨ k = 8 ∨ k = 9 ∨ k = 10 ∨ k = 11 ∨ k = 12 ∨ k = 13 ∨ k = 14 ∨ k = 15 := by omega
  rcases z with rfl | rfl | rfl | rfl | rfl | rfl | rfl | rfl | rfl | rfl | rfl | rfl | rfl | rfl | rfl | rfl
  · exact x_go0 xs f g
  · exact x_go1 xs f g
  · exact x_go2 xs f g
  · exact x_go3 xs f g
  · exact x_r4 xs f g
  · exact x_r5 xs f g
  · exact x_r6 xs f g
  · exact x_r7 xs f g
  · exact x_r8 xs f g
  · exact x_go9 xs f g
  · exact x_go10 xs f g
  · exact x_go11 xs f g
  · exact x_go12 xs f g
  · exact x_go13 xs f g
  · exact x_go14 xs f g
  · exact x_go15 xs f g
theorem x_ends (L : Nat) (xs : Nat → Int32) (hL : L ≤ 6) : ∃ (n : Nat) (h' : ab_H), xr L xs n 1000 0 0 [(0, .float 0)] [] [] = some (.inl (some (.int 1)), h') := by
  have key : x_G L xs 1000 0 0 [(0, .float 0)] [] [] := by
    obtain ⟨f, g, hh⟩ := x_head L xs
    apply hh
    by_cases h6 : L = 6
    · subst h6
      apply x_switch
      obtain ⟨k, hk, e⟩ := x_and15 (xs 0)
      rw [e]
      exact x_six xs f g k hk
    · exact x_short xs f g L (by omega)
  obtain ⟨K, hK⟩ := key
  obtain ⟨h', e⟩ := x_one_ok (hK 0)
  exact ⟨_, h', e⟩
