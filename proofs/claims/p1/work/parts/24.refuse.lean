/-! the law's run, evaluated: what refuses on a new object; made by wip/whole/gen/ops.py -/
def x_e6 : ab_E := .inr (6, List.replicate 6 .null)
def x_hF (f g : Nat → Value) : ab_H := x_n1 ++ [.inr (3, [.int 1, .ref 8, .int 0, .int (-1), .ref 9, .ref 10, .int 0, .int 0, .int 0, .long 0, .null, .int 0, .int 0, .int 0, .int 0, .ref 11, .ref 12, .ref 13, .ref 14, .ref 15, .ref 16]),
  .inl (0, 4096, fun _ => .int 0), .inl (3, 12, f), .inl (3, 35, g), .inl (4, 64, fun _ => .null), .inl (1, 64, fun _ => .int 0), .inl (1, 64, fun _ => .int 0), .inl (1, 64, fun _ => .int 0), .inl (1, 64, fun _ => .int 0), .inl (3, 64, fun _ => .null)] ++ [.inl (2, 1, fun _ => .long 0), x_e6]
set_option maxHeartbeats 4000000 in
theorem x_nodeAt (xs : Nat → Int32) (f g : Nat → Value) (n : Int32) (d : Nat) : xv 6 xs (d + 1) 21 0 [(0, .ref 0), (1, .int n)] [] (x_hh f g) (.inr (6, 18)) (x_hh f g ++ [x_e6]) := by
  have thr : xv 6 xs (d + 1) 21 15 [(0, .ref 0), (1, .int n)] [] (x_hh f g) (.inr (6, 18)) (x_hh f g ++ [x_e6]) := ⟨1, fun n => rfl⟩
  refine xv_seg 2 (pc' := if n < 0 then 15 else 4) (Lc' := [(0, .ref 0), (1, .int n)]) (S' := []) (h2 := x_hh f g) (fun _ => rfl) ?_
  by_cases hn : n < 0
  · rw [if_pos hn]; exact thr
  · rw [if_neg hn]
    refine xv_seg 3 (pc' := 9) (Lc' := [(0, .ref 0), (1, .int n)]) (S' := [.ref 6, .int n]) (h2 := x_hh f g) (fun _ => rfl) ?_
    refine xv_ret (M := xM21) (N := xM54) (i := .invokevirtual 58) (len := 3) (tg := 0) (j := 54) (as := [.ref 6]) (r := [.int n]) (v := some (.int 0)) (h2 := x_hh f g) rfl rfl rfl rfl rfl rfl rfl rfl rfl ⟨Nat.le_of_ble_eq_true rfl, Nat.le_of_ble_eq_true rfl, by decide⟩ ⟨3, fun _ => rfl⟩ ?_
    refine xv_seg 1 (pc' := if n < 0 then 25 else 15) (Lc' := [(0, .ref 0), (1, .int n)]) (S' := []) (h2 := x_hh f g) (fun _ => rfl) ?_
    rw [if_neg hn]; exact thr
set_option maxHeartbeats 4000000 in
theorem x_out (xs : Nat → Int32) (f g : Nat → Value) (n : Int32) (d : Nat) : xv 6 xs d 46 0 [(0, .ref 7), (1, .int n)] [] (x_hh f g ++ [x_e6]) (.inl (some (.int 1))) (x_hh f g ++ [x_e6]) := by
  have yes : xv 6 xs d 46 12 [(0, .ref 7), (1, .int n)] [] (x_hh f g ++ [x_e6]) (.inl (some (.int 1))) (x_hh f g ++ [x_e6]) := ⟨3, fun n => rfl⟩
  refine xv_seg 2 (pc' := if n < 0 then 12 else 4) (Lc' := [(0, .ref 7), (1, .int n)]) (S' := []) (h2 := x_hh f g ++ [x_e6]) (fun _ => rfl) ?_
  by_cases hn : n < 0
  · rw [if_pos hn]; exact yes
  · rw [if_neg hn]
    refine xv_seg 4 (pc' := if n < 0 then 16 else 12) (Lc' := [(0, .ref 7), (1, .int n)]) (S' := []) (h2 := x_hh f g ++ [x_e6]) (fun _ => rfl) ?_
    rw [if_neg hn]; exact yes
