/-! the law's run, evaluated: the two new objects -/
def x_n1 : ab_H := [.inr (0, [.ref 1, .ref 6, .int (-1)]), .inr (1, [.ref 2, .ref 3, .int 0, .int 0, .ref 4, .ref 5]), .inl (0, 4096, fun _ => .int 0), .inl (0, 4096, fun _ => .int 0),
  .inr (2, [.int 26, .int 0, .int 0, .int 0, .int 0, .long 0]), .inr (2, [.int 26, .int 0, .int 0, .int 0, .int 0, .long 0]), .inr (4, [.float 58, .int 0, .int 0])]
def x_n2 (f g : Nat → Value) : ab_H := [.inr (3, [.int 0, .ref 8, .int 0, .int (-1), .ref 9, .ref 10, .int 0, .int 0, .int 0, .long 0, .null, .int 0, .int 0, .int 0, .int 0, .ref 11, .ref 12, .ref 13, .ref 14, .ref 15, .ref 16]),
  .inl (0, 4096, fun _ => .int 0), .inl (3, 12, f), .inl (3, 35, g), .inl (4, 64, fun _ => .null), .inl (1, 64, fun _ => .int 0), .inl (1, 64, fun _ => .int 0), .inl (1, 64, fun _ => .int 0), .inl (1, 64, fun _ => .int 0), .inl (3, 64, fun _ => .null)]
def x_n0 : ab_H := [.inr (0, x_cd 0)]
def x_m0 : ab_H := x_n1 ++ [.inr (3, x_cd 3)]
set_option maxHeartbeats 40000000 in
set_option maxRecDepth 100000 in
theorem x_i1 (L : Nat) (xs : Nat → Int32) : xv L xs 999 10 0 [(0, .ref 0)] [] x_n0 (.inl none) x_n1 := ⟨100, fun n => rfl⟩
set_option maxHeartbeats 40000000 in
set_option maxRecDepth 100000 in
theorem x_i2 (L : Nat) (xs : Nat → Int32) : ∃ f g : Nat → Value, xv L xs 999 33 0 [(0, .ref 7)] [] x_m0 (.inl none) (x_n1 ++ x_n2 f g) := ⟨_, _, 400, fun n => rfl⟩
