/-! the law's run, evaluated: calls that refuse on a new object; made by wip/whole/gen/ops.py -/
set_option maxHeartbeats 8000000 in
set_option maxRecDepth 100000 in
theorem x_c4 (xs : Nat → Int32) (f g : Nat → Value) (a b : Int32) : xv 6 xs 998 15 0 [(0, .ref 0), (1, .int a), (2, .int b)] [] (x_hh f g) (.inr (6, 18)) (x_hh f g ++ [x_e6]) := by
  refine xv_seg 2 (pc' := 2) (Lc' := [(0, .ref 0), (1, .int a), (2, .int b)]) (S' := [.int a, .ref 0]) (h2 := x_hh f g) (fun _ => rfl) ?_
  refine xv_pass (M := xM15) (N := xM21) (i := .invokevirtual 62) (len := 3) (tg := 0) (j := 21) (as := [.ref 0, .int a]) (r := []) rfl rfl rfl rfl rfl rfl rfl rfl rfl ⟨Nat.le_of_ble_eq_true rfl, Nat.le_of_ble_eq_true rfl, by decide⟩ rfl ?_
  exact x_nodeAt xs f g a 996
set_option maxHeartbeats 8000000 in
set_option maxRecDepth 100000 in
theorem x_l4 (xs : Nat → Int32) (f g : Nat → Value) (a b : Int32) : xv 6 xs 999 4 0 [(0, .ref 0), (1, .int a), (2, .int b), (3, .ref 17)] [] (x_hh f g) (.inl (some (.int 1))) (x_hh f g ++ [x_e6]) := by
  refine xv_seg 5 (pc' := 5) (Lc' := [(0, .ref 0), (1, .int a), (2, .int b), (3, .ref 17)]) (S' := [.int b, .int a, .ref 0, .int 0, .ref 17]) (h2 := x_hh f g) (fun _ => rfl) ?_
  refine xv_catch (M := xM4) (N := xM15) (i := .invokevirtual 27) (len := 3) (tg := 0) (j := 15) (as := [.ref 0, .int a, .int b]) (r := [.int 0, .ref 17]) (ce := 6) (q := 18) (hp := 13) (h2 := x_hh f g ++ [x_e6]) rfl rfl rfl rfl rfl rfl rfl rfl rfl ⟨Nat.le_of_ble_eq_true rfl, Nat.le_of_ble_eq_true rfl, by decide⟩ (by decide) ?_ rfl rfl ⟨3, fun _ => rfl⟩
  exact x_c4 xs f g a b
set_option maxHeartbeats 8000000 in
set_option maxRecDepth 100000 in
theorem x_m4 (xs : Nat → Int32) (f g : Nat → Value) (a b : Int32) : xv 6 xs 999 40 0 [(0, .ref 7), (1, .int a), (2, .int b)] [] (x_hh f g ++ [x_e6]) (.inl (some (.int 0))) (x_hF f g) := by
  refine xv_seg 5 (pc' := 7) (Lc' := [(0, .ref 7), (1, .int a), (2, .int b)]) (S' := [.int a, .ref 7]) (h2 := x_hh f g ++ [x_e6]) (fun _ => rfl) ?_
  refine xv_ret (M := xM40) (N := xM46) (i := .invokevirtual 311) (len := 3) (tg := 0) (j := 46) (as := [.ref 7, .int a]) (r := []) (v := some (.int 1)) (h2 := x_hh f g ++ [x_e6]) rfl rfl rfl rfl rfl rfl rfl rfl rfl ⟨Nat.le_of_ble_eq_true rfl, Nat.le_of_ble_eq_true rfl, by decide⟩ (x_out xs f g a 998) ?_
  exact ⟨20, fun n => rfl⟩
theorem x_d4 (xs : Nat → Int32) (f g : Nat → Value) : x_G 6 xs 1000 0 348 [(5, .int 1), (4, .int 0), (3, .ref 17), (2, .ref 7), (1, .ref 0), (0, .float 0)] [.int 0] (x_hF f g) := ⟨100, fun n => x_every (T := (Nat → Int32) × (Nat → Value) × (Nat → Value) × Nat) (fun _ => 0, fun _ => .null, fun _ => .null, 0) (fun t => x_one (xr 6 t.1 (t.2.2.2 + 100) 1000 0 348 [(5, .int 1), (4, .int 0), (3, .ref 17), (2, .ref 7), (1, .ref 0), (0, .float 0)] [.int 0] (x_hF t.2.1 t.2.2.1))) (by decide +kernel) (xs, f, g, n)⟩
set_option maxHeartbeats 8000000 in
set_option maxRecDepth 100000 in
theorem x_r4 (xs : Nat → Int32) (f g : Nat → Value) : x_go xs f g 4 := by
  refine xg_seg 13 (pc' := 327) (Lc' := [(4, .int 0), (3, .ref 17), (2, .ref 7), (1, .ref 0), (0, .float 0)]) (S' := [.ref 17, .int (xs 2), .int (xs 1), .ref 0]) (h2 := x_hh f g) (fun _ => rfl) ?_
  refine xg_ret (M := xM0) (N := xM4) (i := .invokestatic 75) (len := 3) (tg := 0) (j := 4) (as := [.ref 0, .int (xs 1), .int (xs 2), .ref 17]) (r := []) (v := some (.int 1)) (h2 := x_hh f g ++ [x_e6]) rfl rfl rfl rfl rfl rfl rfl rfl rfl ⟨Nat.le_of_ble_eq_true rfl, Nat.le_of_ble_eq_true rfl, by decide⟩ (x_l4 xs f g (xs 1)  (xs 2)) ?_
  refine xg_seg 12 (pc' := 345) (Lc' := [(5, .int 1), (4, .int 0), (3, .ref 17), (2, .ref 7), (1, .ref 0), (0, .float 0)]) (S' := [.int (xs 2), .int (xs 1), .ref 7]) (h2 := x_hh f g ++ [x_e6]) (fun _ => rfl) ?_
  refine xg_ret (M := xM0) (N := xM40) (i := .invokevirtual 78) (len := 3) (tg := 0) (j := 40) (as := [.ref 7, .int (xs 1), .int (xs 2)]) (r := []) (v := some (.int 0)) (h2 := x_hF f g) rfl rfl rfl rfl rfl rfl rfl rfl rfl ⟨Nat.le_of_ble_eq_true rfl, Nat.le_of_ble_eq_true rfl, by decide⟩ (x_m4 xs f g (xs 1)  (xs 2)) ?_
  exact x_d4 xs f g
set_option maxHeartbeats 8000000 in
set_option maxRecDepth 100000 in
theorem x_c5 (xs : Nat → Int32) (f g : Nat → Value) (a b : Int32) : xv 6 xs 998 16 0 [(0, .ref 0), (1, .int a), (2, .int b)] [] (x_hh f g) (.inr (6, 18)) (x_hh f g ++ [x_e6]) := by
  refine xv_seg 2 (pc' := 2) (Lc' := [(0, .ref 0), (1, .int a), (2, .int b)]) (S' := [.int a, .ref 0]) (h2 := x_hh f g) (fun _ => rfl) ?_
  refine xv_pass (M := xM16) (N := xM21) (i := .invokevirtual 62) (len := 3) (tg := 0) (j := 21) (as := [.ref 0, .int a]) (r := []) rfl rfl rfl rfl rfl rfl rfl rfl rfl ⟨Nat.le_of_ble_eq_true rfl, Nat.le_of_ble_eq_true rfl, by decide⟩ rfl ?_
  exact x_nodeAt xs f g a 996
set_option maxHeartbeats 8000000 in
set_option maxRecDepth 100000 in
theorem x_l5 (xs : Nat → Int32) (f g : Nat → Value) (a b : Int32) : xv 6 xs 999 5 0 [(0, .ref 0), (1, .int a), (2, .int b), (3, .ref 17)] [] (x_hh f g) (.inl (some (.int 1))) (x_hh f g ++ [x_e6]) := by
  refine xv_seg 5 (pc' := 5) (Lc' := [(0, .ref 0), (1, .int a), (2, .int b), (3, .ref 17)]) (S' := [.int b, .int a, .ref 0, .int 0, .ref 17]) (h2 := x_hh f g) (fun _ => rfl) ?_
  refine xv_catch (M := xM5) (N := xM16) (i := .invokevirtual 31) (len := 3) (tg := 0) (j := 16) (as := [.ref 0, .int a, .int b]) (r := [.int 0, .ref 17]) (ce := 6) (q := 18) (hp := 13) (h2 := x_hh f g ++ [x_e6]) rfl rfl rfl rfl rfl rfl rfl rfl rfl ⟨Nat.le_of_ble_eq_true rfl, Nat.le_of_ble_eq_true rfl, by decide⟩ (by decide) ?_ rfl rfl ⟨3, fun _ => rfl⟩
  exact x_c5 xs f g a b
set_option maxHeartbeats 8000000 in
set_option maxRecDepth 100000 in
theorem x_m5 (xs : Nat → Int32) (f g : Nat → Value) (a b : Int32) : xv 6 xs 999 41 0 [(0, .ref 7), (1, .int a), (2, .int b)] [] (x_hh f g ++ [x_e6]) (.inl (some (.int 0))) (x_hF f g) := by
  refine xv_seg 5 (pc' := 7) (Lc' := [(0, .ref 7), (1, .int a), (2, .int b)]) (S' := [.int a, .ref 7]) (h2 := x_hh f g ++ [x_e6]) (fun _ => rfl) ?_
  refine xv_ret (M := xM41) (N := xM46) (i := .invokevirtual 311) (len := 3) (tg := 0) (j := 46) (as := [.ref 7, .int a]) (r := []) (v := some (.int 1)) (h2 := x_hh f g ++ [x_e6]) rfl rfl rfl rfl rfl rfl rfl rfl rfl ⟨Nat.le_of_ble_eq_true rfl, Nat.le_of_ble_eq_true rfl, by decide⟩ (x_out xs f g a 998) ?_
  exact ⟨20, fun n => rfl⟩
theorem x_d5 (xs : Nat → Int32) (f g : Nat → Value) : x_G 6 xs 1000 0 416 [(5, .int 1), (4, .int 0), (3, .ref 17), (2, .ref 7), (1, .ref 0), (0, .float 0)] [.int 0] (x_hF f g) := ⟨100, fun n => x_every (T := (Nat → Int32) × (Nat → Value) × (Nat → Value) × Nat) (fun _ => 0, fun _ => .null, fun _ => .null, 0) (fun t => x_one (xr 6 t.1 (t.2.2.2 + 100) 1000 0 416 [(5, .int 1), (4, .int 0), (3, .ref 17), (2, .ref 7), (1, .ref 0), (0, .float 0)] [.int 0] (x_hF t.2.1 t.2.2.1))) (by decide +kernel) (xs, f, g, n)⟩
set_option maxHeartbeats 8000000 in
set_option maxRecDepth 100000 in
theorem x_r5 (xs : Nat → Int32) (f g : Nat → Value) : x_go xs f g 5 := by
  refine xg_seg 13 (pc' := 395) (Lc' := [(4, .int 0), (3, .ref 17), (2, .ref 7), (1, .ref 0), (0, .float 0)]) (S' := [.ref 17, .int (xs 2), .int (xs 1), .ref 0]) (h2 := x_hh f g) (fun _ => rfl) ?_
  refine xg_ret (M := xM0) (N := xM5) (i := .invokestatic 79) (len := 3) (tg := 0) (j := 5) (as := [.ref 0, .int (xs 1), .int (xs 2), .ref 17]) (r := []) (v := some (.int 1)) (h2 := x_hh f g ++ [x_e6]) rfl rfl rfl rfl rfl rfl rfl rfl rfl ⟨Nat.le_of_ble_eq_true rfl, Nat.le_of_ble_eq_true rfl, by decide⟩ (x_l5 xs f g (xs 1)  (xs 2)) ?_
  refine xg_seg 12 (pc' := 413) (Lc' := [(5, .int 1), (4, .int 0), (3, .ref 17), (2, .ref 7), (1, .ref 0), (0, .float 0)]) (S' := [.int (xs 2), .int (xs 1), .ref 7]) (h2 := x_hh f g ++ [x_e6]) (fun _ => rfl) ?_
  refine xg_ret (M := xM0) (N := xM41) (i := .invokevirtual 81) (len := 3) (tg := 0) (j := 41) (as := [.ref 7, .int (xs 1), .int (xs 2)]) (r := []) (v := some (.int 0)) (h2 := x_hF f g) rfl rfl rfl rfl rfl rfl rfl rfl rfl ⟨Nat.le_of_ble_eq_true rfl, Nat.le_of_ble_eq_true rfl, by decide⟩ (x_m5 xs f g (xs 1)  (xs 2)) ?_
  exact x_d5 xs f g
set_option maxHeartbeats 8000000 in
set_option maxRecDepth 100000 in
theorem x_c6 (xs : Nat → Int32) (f g : Nat → Value) (a : Int32) : xv 6 xs 998 17 0 [(0, .ref 0), (1, .int a)] [] (x_hh f g) (.inr (6, 18)) (x_hh f g ++ [x_e6]) := by
  refine xv_seg 2 (pc' := 2) (Lc' := [(0, .ref 0), (1, .int a)]) (S' := [.int a, .ref 0]) (h2 := x_hh f g) (fun _ => rfl) ?_
  refine xv_pass (M := xM17) (N := xM21) (i := .invokevirtual 62) (len := 3) (tg := 0) (j := 21) (as := [.ref 0, .int a]) (r := []) rfl rfl rfl rfl rfl rfl rfl rfl rfl ⟨Nat.le_of_ble_eq_true rfl, Nat.le_of_ble_eq_true rfl, by decide⟩ rfl ?_
  exact x_nodeAt xs f g a 996
set_option maxHeartbeats 8000000 in
set_option maxRecDepth 100000 in
theorem x_l6 (xs : Nat → Int32) (f g : Nat → Value) (a : Int32) : xv 6 xs 999 6 0 [(0, .ref 0), (1, .int a), (2, .ref 17)] [] (x_hh f g) (.inl (some (.int 1))) (x_hh f g ++ [x_e6]) := by
  refine xv_seg 4 (pc' := 4) (Lc' := [(0, .ref 0), (1, .int a), (2, .ref 17)]) (S' := [.int a, .ref 0, .int 0, .ref 17]) (h2 := x_hh f g) (fun _ => rfl) ?_
  refine xv_catch (M := xM6) (N := xM17) (i := .invokevirtual 36) (len := 3) (tg := 0) (j := 17) (as := [.ref 0, .int a]) (r := [.int 0, .ref 17]) (ce := 6) (q := 18) (hp := 11) (h2 := x_hh f g ++ [x_e6]) rfl rfl rfl rfl rfl rfl rfl rfl rfl ⟨Nat.le_of_ble_eq_true rfl, Nat.le_of_ble_eq_true rfl, by decide⟩ (by decide) ?_ rfl rfl ⟨3, fun _ => rfl⟩
  exact x_c6 xs f g a
set_option maxHeartbeats 8000000 in
set_option maxRecDepth 100000 in
theorem x_m6 (xs : Nat → Int32) (f g : Nat → Value) (a : Int32) : xv 6 xs 999 42 0 [(0, .ref 7), (1, .int a)] [] (x_hh f g ++ [x_e6]) (.inl (some (.long 0))) (x_hF f g) := by
  refine xv_seg 5 (pc' := 7) (Lc' := [(0, .ref 7), (1, .int a)]) (S' := [.int a, .ref 7]) (h2 := x_hh f g ++ [x_e6]) (fun _ => rfl) ?_
  refine xv_ret (M := xM42) (N := xM46) (i := .invokevirtual 311) (len := 3) (tg := 0) (j := 46) (as := [.ref 7, .int a]) (r := []) (v := some (.int 1)) (h2 := x_hh f g ++ [x_e6]) rfl rfl rfl rfl rfl rfl rfl rfl rfl ⟨Nat.le_of_ble_eq_true rfl, Nat.le_of_ble_eq_true rfl, by decide⟩ (x_out xs f g a 998) ?_
  exact ⟨20, fun n => rfl⟩
theorem x_d6 (xs : Nat → Int32) (f g : Nat → Value) : x_G 6 xs 1000 0 472 [(5, .int 1), (4, .int 0), (3, .ref 17), (2, .ref 7), (1, .ref 0), (0, .float 0)] [.long 0] (x_hF f g) := ⟨100, fun n => x_every (T := (Nat → Int32) × (Nat → Value) × (Nat → Value) × Nat) (fun _ => 0, fun _ => .null, fun _ => .null, 0) (fun t => x_one (xr 6 t.1 (t.2.2.2 + 100) 1000 0 472 [(5, .int 1), (4, .int 0), (3, .ref 17), (2, .ref 7), (1, .ref 0), (0, .float 0)] [.long 0] (x_hF t.2.1 t.2.2.1))) (by decide +kernel) (xs, f, g, n)⟩
set_option maxHeartbeats 8000000 in
set_option maxRecDepth 100000 in
theorem x_r6 (xs : Nat → Int32) (f g : Nat → Value) : x_go xs f g 6 := by
  refine xg_seg 8 (pc' := 457) (Lc' := [(4, .int 0), (3, .ref 17), (2, .ref 7), (1, .ref 0), (0, .float 0)]) (S' := [.ref 17, .int (xs 1), .ref 0]) (h2 := x_hh f g) (fun _ => rfl) ?_
  refine xg_ret (M := xM0) (N := xM6) (i := .invokestatic 82) (len := 3) (tg := 0) (j := 6) (as := [.ref 0, .int (xs 1), .ref 17]) (r := []) (v := some (.int 1)) (h2 := x_hh f g ++ [x_e6]) rfl rfl rfl rfl rfl rfl rfl rfl rfl ⟨Nat.le_of_ble_eq_true rfl, Nat.le_of_ble_eq_true rfl, by decide⟩ (x_l6 xs f g (xs 1)) ?_
  refine xg_seg 7 (pc' := 469) (Lc' := [(5, .int 1), (4, .int 0), (3, .ref 17), (2, .ref 7), (1, .ref 0), (0, .float 0)]) (S' := [.int (xs 1), .ref 7]) (h2 := x_hh f g ++ [x_e6]) (fun _ => rfl) ?_
  refine xg_ret (M := xM0) (N := xM42) (i := .invokevirtual 84) (len := 3) (tg := 0) (j := 42) (as := [.ref 7, .int (xs 1)]) (r := []) (v := some (.long 0)) (h2 := x_hF f g) rfl rfl rfl rfl rfl rfl rfl rfl rfl ⟨Nat.le_of_ble_eq_true rfl, Nat.le_of_ble_eq_true rfl, by decide⟩ (x_m6 xs f g (xs 1)) ?_
  exact x_d6 xs f g
set_option maxHeartbeats 8000000 in
set_option maxRecDepth 100000 in
theorem x_c7 (xs : Nat → Int32) (f g : Nat → Value) (a b : Int32) : xv 6 xs 998 18 0 [(0, .ref 0), (1, .int a), (2, .int b)] [] (x_hh f g) (.inr (6, 18)) (x_hh f g ++ [x_e6]) := by
  refine xv_seg 2 (pc' := 2) (Lc' := [(0, .ref 0), (1, .int a), (2, .int b)]) (S' := [.int a, .ref 0]) (h2 := x_hh f g) (fun _ => rfl) ?_
  refine xv_pass (M := xM18) (N := xM21) (i := .invokevirtual 62) (len := 3) (tg := 0) (j := 21) (as := [.ref 0, .int a]) (r := []) rfl rfl rfl rfl rfl rfl rfl rfl rfl ⟨Nat.le_of_ble_eq_true rfl, Nat.le_of_ble_eq_true rfl, by decide⟩ rfl ?_
  exact x_nodeAt xs f g a 996
set_option maxHeartbeats 8000000 in
set_option maxRecDepth 100000 in
theorem x_l7 (xs : Nat → Int32) (f g : Nat → Value) (a b : Int32) : xv 6 xs 999 7 0 [(0, .ref 0), (1, .int a), (2, .int b), (3, .ref 17)] [] (x_hh f g) (.inl (some (.int 1))) (x_hh f g ++ [x_e6]) := by
  refine xv_seg 5 (pc' := 5) (Lc' := [(0, .ref 0), (1, .int a), (2, .int b), (3, .ref 17)]) (S' := [.int b, .int a, .ref 0, .int 0, .ref 17]) (h2 := x_hh f g) (fun _ => rfl) ?_
  refine xv_catch (M := xM7) (N := xM18) (i := .invokevirtual 40) (len := 3) (tg := 0) (j := 18) (as := [.ref 0, .int a, .int b]) (r := [.int 0, .ref 17]) (ce := 6) (q := 18) (hp := 13) (h2 := x_hh f g ++ [x_e6]) rfl rfl rfl rfl rfl rfl rfl rfl rfl ⟨Nat.le_of_ble_eq_true rfl, Nat.le_of_ble_eq_true rfl, by decide⟩ (by decide) ?_ rfl rfl ⟨3, fun _ => rfl⟩
  exact x_c7 xs f g a b
set_option maxHeartbeats 8000000 in
set_option maxRecDepth 100000 in
theorem x_m7 (xs : Nat → Int32) (f g : Nat → Value) (a b : Int32) : xv 6 xs 999 43 0 [(0, .ref 7), (1, .int a), (2, .int b)] [] (x_hh f g ++ [x_e6]) (.inl (some (.int 0))) (x_hF f g) := by
  refine xv_seg 5 (pc' := 7) (Lc' := [(0, .ref 7), (1, .int a), (2, .int b)]) (S' := [.int a, .ref 7]) (h2 := x_hh f g ++ [x_e6]) (fun _ => rfl) ?_
  refine xv_ret (M := xM43) (N := xM46) (i := .invokevirtual 311) (len := 3) (tg := 0) (j := 46) (as := [.ref 7, .int a]) (r := []) (v := some (.int 1)) (h2 := x_hh f g ++ [x_e6]) rfl rfl rfl rfl rfl rfl rfl rfl rfl ⟨Nat.le_of_ble_eq_true rfl, Nat.le_of_ble_eq_true rfl, by decide⟩ (x_out xs f g a 998) ?_
  exact ⟨20, fun n => rfl⟩
theorem x_d7 (xs : Nat → Int32) (f g : Nat → Value) : x_G 6 xs 1000 0 539 [(5, .int 1), (4, .int 0), (3, .ref 17), (2, .ref 7), (1, .ref 0), (0, .float 0)] [.int 0] (x_hF f g) := ⟨100, fun n => x_every (T := (Nat → Int32) × (Nat → Value) × (Nat → Value) × Nat) (fun _ => 0, fun _ => .null, fun _ => .null, 0) (fun t => x_one (xr 6 t.1 (t.2.2.2 + 100) 1000 0 539 [(5, .int 1), (4, .int 0), (3, .ref 17), (2, .ref 7), (1, .ref 0), (0, .float 0)] [.int 0] (x_hF t.2.1 t.2.2.1))) (by decide +kernel) (xs, f, g, n)⟩
set_option maxHeartbeats 8000000 in
set_option maxRecDepth 100000 in
theorem x_r7 (xs : Nat → Int32) (f g : Nat → Value) : x_go xs f g 7 := by
  refine xg_seg 13 (pc' := 518) (Lc' := [(4, .int 0), (3, .ref 17), (2, .ref 7), (1, .ref 0), (0, .float 0)]) (S' := [.ref 17, .int (xs 2), .int (xs 1), .ref 0]) (h2 := x_hh f g) (fun _ => rfl) ?_
  refine xg_ret (M := xM0) (N := xM7) (i := .invokestatic 85) (len := 3) (tg := 0) (j := 7) (as := [.ref 0, .int (xs 1), .int (xs 2), .ref 17]) (r := []) (v := some (.int 1)) (h2 := x_hh f g ++ [x_e6]) rfl rfl rfl rfl rfl rfl rfl rfl rfl ⟨Nat.le_of_ble_eq_true rfl, Nat.le_of_ble_eq_true rfl, by decide⟩ (x_l7 xs f g (xs 1)  (xs 2)) ?_
  refine xg_seg 12 (pc' := 536) (Lc' := [(5, .int 1), (4, .int 0), (3, .ref 17), (2, .ref 7), (1, .ref 0), (0, .float 0)]) (S' := [.int (xs 2), .int (xs 1), .ref 7]) (h2 := x_hh f g ++ [x_e6]) (fun _ => rfl) ?_
  refine xg_ret (M := xM0) (N := xM43) (i := .invokevirtual 87) (len := 3) (tg := 0) (j := 43) (as := [.ref 7, .int (xs 1), .int (xs 2)]) (r := []) (v := some (.int 0)) (h2 := x_hF f g) rfl rfl rfl rfl rfl rfl rfl rfl rfl ⟨Nat.le_of_ble_eq_true rfl, Nat.le_of_ble_eq_true rfl, by decide⟩ (x_m7 xs f g (xs 1)  (xs 2)) ?_
  exact x_d7 xs f g
set_option maxHeartbeats 8000000 in
set_option maxRecDepth 100000 in
theorem x_c8 (xs : Nat → Int32) (f g : Nat → Value) (a b : Int32) : xv 6 xs 998 19 0 [(0, .ref 0), (1, .int a), (2, .int b)] [] (x_hh f g) (.inr (6, 18)) (x_hh f g ++ [x_e6]) := by
  refine xv_seg 2 (pc' := 2) (Lc' := [(0, .ref 0), (1, .int a), (2, .int b)]) (S' := [.int a, .ref 0]) (h2 := x_hh f g) (fun _ => rfl) ?_
  refine xv_pass (M := xM19) (N := xM21) (i := .invokevirtual 62) (len := 3) (tg := 0) (j := 21) (as := [.ref 0, .int a]) (r := []) rfl rfl rfl rfl rfl rfl rfl rfl rfl ⟨Nat.le_of_ble_eq_true rfl, Nat.le_of_ble_eq_true rfl, by decide⟩ rfl ?_
  exact x_nodeAt xs f g a 996
set_option maxHeartbeats 8000000 in
set_option maxRecDepth 100000 in
theorem x_l8 (xs : Nat → Int32) (f g : Nat → Value) (a b : Int32) : xv 6 xs 999 8 0 [(0, .ref 0), (1, .int a), (2, .int b), (3, .ref 17)] [] (x_hh f g) (.inl (some (.int 1))) (x_hh f g ++ [x_e6]) := by
  refine xv_seg 5 (pc' := 5) (Lc' := [(0, .ref 0), (1, .int a), (2, .int b), (3, .ref 17)]) (S' := [.int b, .int a, .ref 0, .int 0, .ref 17]) (h2 := x_hh f g) (fun _ => rfl) ?_
  refine xv_catch (M := xM8) (N := xM19) (i := .invokevirtual 43) (len := 3) (tg := 0) (j := 19) (as := [.ref 0, .int a, .int b]) (r := [.int 0, .ref 17]) (ce := 6) (q := 18) (hp := 20) (h2 := x_hh f g ++ [x_e6]) rfl rfl rfl rfl rfl rfl rfl rfl rfl ⟨Nat.le_of_ble_eq_true rfl, Nat.le_of_ble_eq_true rfl, by decide⟩ (by decide) ?_ rfl rfl ⟨3, fun _ => rfl⟩
  exact x_c8 xs f g a b
set_option maxHeartbeats 8000000 in
set_option maxRecDepth 100000 in
theorem x_m8 (xs : Nat → Int32) (f g : Nat → Value) (a b : Int32) : xv 6 xs 999 44 0 [(0, .ref 7), (1, .int a), (2, .int b)] [] (x_hh f g ++ [x_e6]) (.inl (some (.int 0))) (x_hF f g) := by
  refine xv_seg 5 (pc' := 7) (Lc' := [(0, .ref 7), (1, .int a), (2, .int b)]) (S' := [.int a, .ref 7]) (h2 := x_hh f g ++ [x_e6]) (fun _ => rfl) ?_
  refine xv_ret (M := xM44) (N := xM46) (i := .invokevirtual 311) (len := 3) (tg := 0) (j := 46) (as := [.ref 7, .int a]) (r := []) (v := some (.int 1)) (h2 := x_hh f g ++ [x_e6]) rfl rfl rfl rfl rfl rfl rfl rfl rfl ⟨Nat.le_of_ble_eq_true rfl, Nat.le_of_ble_eq_true rfl, by decide⟩ (x_out xs f g a 998) ?_
  exact ⟨20, fun n => rfl⟩
theorem x_d8 (xs : Nat → Int32) (f g : Nat → Value) : x_G 6 xs 1000 0 607 [(5, .int 1), (4, .int 0), (3, .ref 17), (2, .ref 7), (1, .ref 0), (0, .float 0)] [.int 0] (x_hF f g) := ⟨100, fun n => x_every (T := (Nat → Int32) × (Nat → Value) × (Nat → Value) × Nat) (fun _ => 0, fun _ => .null, fun _ => .null, 0) (fun t => x_one (xr 6 t.1 (t.2.2.2 + 100) 1000 0 607 [(5, .int 1), (4, .int 0), (3, .ref 17), (2, .ref 7), (1, .ref 0), (0, .float 0)] [.int 0] (x_hF t.2.1 t.2.2.1))) (by decide +kernel) (xs, f, g, n)⟩
set_option maxHeartbeats 8000000 in
set_option maxRecDepth 100000 in
theorem x_r8 (xs : Nat → Int32) (f g : Nat → Value) : x_go xs f g 8 := by
  refine xg_seg 13 (pc' := 586) (Lc' := [(4, .int 0), (3, .ref 17), (2, .ref 7), (1, .ref 0), (0, .float 0)]) (S' := [.ref 17, .int (xs 2), .int (xs 1), .ref 0]) (h2 := x_hh f g) (fun _ => rfl) ?_
  refine xg_ret (M := xM0) (N := xM8) (i := .invokestatic 88) (len := 3) (tg := 0) (j := 8) (as := [.ref 0, .int (xs 1), .int (xs 2), .ref 17]) (r := []) (v := some (.int 1)) (h2 := x_hh f g ++ [x_e6]) rfl rfl rfl rfl rfl rfl rfl rfl rfl ⟨Nat.le_of_ble_eq_true rfl, Nat.le_of_ble_eq_true rfl, by decide⟩ (x_l8 xs f g (xs 1)  (xs 2)) ?_
  refine xg_seg 12 (pc' := 604) (Lc' := [(5, .int 1), (4, .int 0), (3, .ref 17), (2, .ref 7), (1, .ref 0), (0, .float 0)]) (S' := [.int (xs 2), .int (xs 1), .ref 7]) (h2 := x_hh f g ++ [x_e6]) (fun _ => rfl) ?_
  refine xg_ret (M := xM0) (N := xM44) (i := .invokevirtual 90) (len := 3) (tg := 0) (j := 44) (as := [.ref 7, .int (xs 1), .int (xs 2)]) (r := []) (v := some (.int 0)) (h2 := x_hF f g) rfl rfl rfl rfl rfl rfl rfl rfl rfl ⟨Nat.le_of_ble_eq_true rfl, Nat.le_of_ble_eq_true rfl, by decide⟩ (x_m8 xs f g (xs 1)  (xs 2)) ?_
  exact x_d8 xs f g
set_option maxHeartbeats 8000000 in
set_option maxRecDepth 100000 in
theorem x_c1 (xs : Nat → Int32) (f g : Nat → Value) (a : Int32) (h0 : a ≠ 0) : xv 6 xs 998 12 0 [(0, .ref 0), (1, .int a)] [] (x_hh f g) (.inr (6, 18)) (x_hh f g ++ [x_e6]) := by
  have thr : xv 6 xs 998 12 15 [(0, .ref 0), (1, .int a)] [] (x_hh f g) (.inr (6, 18)) (x_hh f g ++ [x_e6]) := ⟨1, fun n => rfl⟩
  refine xv_seg 2 (pc' := if a < 0 then 15 else 4) (Lc' := [(0, .ref 0), (1, .int a)]) (S' := []) (h2 := x_hh f g) (fun _ => rfl) ?_
  by_cases hn : a < 0
  · rw [if_pos hn]; exact thr
  · rw [if_neg hn]
    refine xv_seg 5 (pc' := if a ≤ 0 then 25 else 15) (Lc' := [(0, .ref 0), (1, .int a)]) (S' := []) (h2 := x_hh f g) (fun _ => rfl) ?_
    rw [if_neg (fun hle => h0 (Int32.le_antisymm hle (Int32.not_lt.mp hn)))]; exact thr
set_option maxHeartbeats 8000000 in
set_option maxRecDepth 100000 in
theorem x_l1 (xs : Nat → Int32) (f g : Nat → Value) (a : Int32) (h0 : a ≠ 0) : xv 6 xs 999 2 0 [(0, .ref 0), (1, .int a), (2, .ref 17)] [] (x_hh f g) (.inl (some (.int 1))) (x_hh f g ++ [x_e6]) := by
  refine xv_seg 4 (pc' := 4) (Lc' := [(0, .ref 0), (1, .int a), (2, .ref 17)]) (S' := [.int a, .ref 0, .int 0, .ref 17]) (h2 := x_hh f g) (fun _ => rfl) ?_
  refine xv_catch (M := xM2) (N := xM12) (i := .invokevirtual 15) (len := 3) (tg := 0) (j := 12) (as := [.ref 0, .int a]) (r := [.int 0, .ref 17]) (ce := 6) (q := 18) (hp := 12) (h2 := x_hh f g ++ [x_e6]) rfl rfl rfl rfl rfl rfl rfl rfl rfl ⟨Nat.le_of_ble_eq_true rfl, Nat.le_of_ble_eq_true rfl, by decide⟩ (by decide) ?_ rfl rfl ⟨3, fun _ => rfl⟩
  exact x_c1 xs f g a h0
set_option maxHeartbeats 8000000 in
set_option maxRecDepth 100000 in
theorem x_m1 (xs : Nat → Int32) (f g : Nat → Value) (a : Int32) (h0 : a ≠ 0) : xv 6 xs 999 37 0 [(0, .ref 7), (1, .int a)] [] (x_hh f g ++ [x_e6]) (.inl (some (.int 0))) (x_hF f g) := by
  have thr : xv 6 xs 999 37 17 [(0, .ref 7), (1, .int a)] [] (x_hh f g ++ [x_e6]) (.inl (some (.int 0))) (x_hF f g) := ⟨20, fun n => rfl⟩
  refine xv_seg 5 (pc' := if a < 0 then 17 else 9) (Lc' := [(0, .ref 7), (1, .int a)]) (S' := []) (h2 := x_hh f g ++ [x_e6]) (fun _ => rfl) ?_
  by_cases hn : a < 0
  · rw [if_pos hn]; exact thr
  · rw [if_neg hn]
    refine xv_seg 4 (pc' := if a ≤ 0 then 23 else 17) (Lc' := [(0, .ref 7), (1, .int a)]) (S' := []) (h2 := x_hh f g ++ [x_e6]) (fun _ => rfl) ?_
    rw [if_neg (fun hle => h0 (Int32.le_antisymm hle (Int32.not_lt.mp hn)))]; exact thr
theorem x_d1 (xs : Nat → Int32) (f g : Nat → Value) : x_G 6 xs 1000 0 223 [(5, .int 1), (4, .int 0), (3, .ref 17), (2, .ref 7), (1, .ref 0), (0, .float 0)] [.int 0] (x_hF f g) := ⟨100, fun n => x_every (T := (Nat → Int32) × (Nat → Value) × (Nat → Value) × Nat) (fun _ => 0, fun _ => .null, fun _ => .null, 0) (fun t => x_one (xr 6 t.1 (t.2.2.2 + 100) 1000 0 223 [(5, .int 1), (4, .int 0), (3, .ref 17), (2, .ref 7), (1, .ref 0), (0, .float 0)] [.int 0] (x_hF t.2.1 t.2.2.1))) (by decide +kernel) (xs, f, g, n)⟩
set_option maxHeartbeats 8000000 in
set_option maxRecDepth 100000 in
theorem x_r1 (xs : Nat → Int32) (f g : Nat → Value) (h0 : xs 1 ≠ 0) : x_go xs f g 1 := by
  refine xg_seg 8 (pc' := 208) (Lc' := [(4, .int 0), (3, .ref 17), (2, .ref 7), (1, .ref 0), (0, .float 0)]) (S' := [.ref 17, .int (xs 1), .ref 0]) (h2 := x_hh f g) (fun _ => rfl) ?_
  refine xg_ret (M := xM0) (N := xM2) (i := .invokestatic 63) (len := 3) (tg := 0) (j := 2) (as := [.ref 0, .int (xs 1), .ref 17]) (r := []) (v := some (.int 1)) (h2 := x_hh f g ++ [x_e6]) rfl rfl rfl rfl rfl rfl rfl rfl rfl ⟨Nat.le_of_ble_eq_true rfl, Nat.le_of_ble_eq_true rfl, by decide⟩ (x_l1 xs f g (xs 1) h0) ?_
  refine xg_seg 7 (pc' := 220) (Lc' := [(5, .int 1), (4, .int 0), (3, .ref 17), (2, .ref 7), (1, .ref 0), (0, .float 0)]) (S' := [.int (xs 1), .ref 7]) (h2 := x_hh f g ++ [x_e6]) (fun _ => rfl) ?_
  refine xg_ret (M := xM0) (N := xM37) (i := .invokevirtual 66) (len := 3) (tg := 0) (j := 37) (as := [.ref 7, .int (xs 1)]) (r := []) (v := some (.int 0)) (h2 := x_hF f g) rfl rfl rfl rfl rfl rfl rfl rfl rfl ⟨Nat.le_of_ble_eq_true rfl, Nat.le_of_ble_eq_true rfl, by decide⟩ (x_m1 xs f g (xs 1) h0) ?_
  exact x_d1 xs f g
set_option maxHeartbeats 8000000 in
set_option maxRecDepth 100000 in
theorem x_c9 (xs : Nat → Int32) (f g : Nat → Value) (a : Int32) (h0 : a ≠ 0) (h1 : a ≠ 1) : xv 6 xs 998 20 0 [(0, .ref 0), (1, .int a)] [] (x_hh f g) (.inr (6, 18)) (x_hh f g ++ [x_e6]) := by
  refine xv_seg 2 (pc' := if a = 0 then 19 else 4) (Lc' := [(0, .ref 0), (1, .int a)]) (S' := []) (h2 := x_hh f g) (fun _ => rfl) ?_
  rw [if_neg h0]
  refine xv_seg 3 (pc' := if a = 1 then 19 else 9) (Lc' := [(0, .ref 0), (1, .int a)]) (S' := []) (h2 := x_hh f g) (fun _ => rfl) ?_
  rw [if_neg h1]
  exact ⟨1, fun n => rfl⟩
set_option maxHeartbeats 8000000 in
set_option maxRecDepth 100000 in
theorem x_l9 (xs : Nat → Int32) (f g : Nat → Value) (a : Int32) (h0 : a ≠ 0) (h1 : a ≠ 1) : xv 6 xs 999 9 0 [(0, .ref 0), (1, .int a), (2, .ref 17)] [] (x_hh f g) (.inl (some (.int 1))) (x_hh f g ++ [x_e6]) := by
  refine xv_seg 4 (pc' := 4) (Lc' := [(0, .ref 0), (1, .int a), (2, .ref 17)]) (S' := [.int a, .ref 0, .int 0, .ref 17]) (h2 := x_hh f g) (fun _ => rfl) ?_
  refine xv_catch (M := xM9) (N := xM20) (i := .invokevirtual 47) (len := 3) (tg := 0) (j := 20) (as := [.ref 0, .int a]) (r := [.int 0, .ref 17]) (ce := 6) (q := 18) (hp := 12) (h2 := x_hh f g ++ [x_e6]) rfl rfl rfl rfl rfl rfl rfl rfl rfl ⟨Nat.le_of_ble_eq_true rfl, Nat.le_of_ble_eq_true rfl, by decide⟩ (by decide) ?_ rfl rfl ⟨3, fun _ => rfl⟩
  exact x_c9 xs f g a h0 h1
set_option maxHeartbeats 8000000 in
set_option maxRecDepth 100000 in
theorem x_m9 (xs : Nat → Int32) (f g : Nat → Value) (a : Int32) (h0 : a ≠ 0) (h1 : a ≠ 1) : xv 6 xs 999 45 0 [(0, .ref 7), (1, .int a)] [] (x_hh f g ++ [x_e6]) (.inl (some (.int 0))) (x_hF f g) := by
  refine xv_seg 5 (pc' := if a = 0 then 9 else 16) (Lc' := [(0, .ref 7), (1, .int a)]) (S' := []) (h2 := x_hh f g ++ [x_e6]) (fun _ => rfl) ?_
  rw [if_neg h0]
  refine xv_seg 3 (pc' := if a = 1 then 21 else 28) (Lc' := [(0, .ref 7), (1, .int a)]) (S' := []) (h2 := x_hh f g ++ [x_e6]) (fun _ => rfl) ?_
  rw [if_neg h1]
  exact ⟨20, fun n => rfl⟩
theorem x_d9 (xs : Nat → Int32) (f g : Nat → Value) : x_G 6 xs 1000 0 670 [(5, .int 1), (4, .int 0), (3, .ref 17), (2, .ref 7), (1, .ref 0), (0, .float 0)] [.int 0] (x_hF f g) := ⟨100, fun n => x_every (T := (Nat → Int32) × (Nat → Value) × (Nat → Value) × Nat) (fun _ => 0, fun _ => .null, fun _ => .null, 0) (fun t => x_one (xr 6 t.1 (t.2.2.2 + 100) 1000 0 670 [(5, .int 1), (4, .int 0), (3, .ref 17), (2, .ref 7), (1, .ref 0), (0, .float 0)] [.int 0] (x_hF t.2.1 t.2.2.1))) (by decide +kernel) (xs, f, g, n)⟩
set_option maxHeartbeats 8000000 in
set_option maxRecDepth 100000 in
theorem x_r9 (xs : Nat → Int32) (f g : Nat → Value) (h0 : xs 1 ≠ 0) (h1 : xs 1 ≠ 1) : x_go xs f g 9 := by
  refine xg_seg 8 (pc' := 655) (Lc' := [(4, .int 0), (3, .ref 17), (2, .ref 7), (1, .ref 0), (0, .float 0)]) (S' := [.ref 17, .int (xs 1), .ref 0]) (h2 := x_hh f g) (fun _ => rfl) ?_
  refine xg_ret (M := xM0) (N := xM9) (i := .invokestatic 91) (len := 3) (tg := 0) (j := 9) (as := [.ref 0, .int (xs 1), .ref 17]) (r := []) (v := some (.int 1)) (h2 := x_hh f g ++ [x_e6]) rfl rfl rfl rfl rfl rfl rfl rfl rfl ⟨Nat.le_of_ble_eq_true rfl, Nat.le_of_ble_eq_true rfl, by decide⟩ (x_l9 xs f g (xs 1) h0 h1) ?_
  refine xg_seg 7 (pc' := 667) (Lc' := [(5, .int 1), (4, .int 0), (3, .ref 17), (2, .ref 7), (1, .ref 0), (0, .float 0)]) (S' := [.int (xs 1), .ref 7]) (h2 := x_hh f g ++ [x_e6]) (fun _ => rfl) ?_
  refine xg_ret (M := xM0) (N := xM45) (i := .invokevirtual 93) (len := 3) (tg := 0) (j := 45) (as := [.ref 7, .int (xs 1)]) (r := []) (v := some (.int 0)) (h2 := x_hF f g) rfl rfl rfl rfl rfl rfl rfl rfl rfl ⟨Nat.le_of_ble_eq_true rfl, Nat.le_of_ble_eq_true rfl, by decide⟩ (x_m9 xs f g (xs 1) h0 h1) ?_
  exact x_d9 xs f g
theorem x_at1 (xs : Nat → Int32) (v : Int32) (h : xs 1 = v) : xs = fun j => if j = 1 then v else xs j := by
  funext j
  by_cases hj : j = 1
  · subst hj; rw [if_pos rfl, h]
  · rw [if_neg hj]
theorem x_go1 (xs : Nat → Int32) (f g : Nat → Value) : x_go xs f g 1 := by
  by_cases h0 : xs 1 = 0
  · rw [x_at1 xs 0 h0]; exact x_end0 xs f g
  · exact x_r1 xs f g h0
theorem x_go9 (xs : Nat → Int32) (f g : Nat → Value) : x_go xs f g 9 := by
  by_cases h0 : xs 1 = 0
  · rw [x_at1 xs 0 h0]; exact x_count0 xs f g
  · by_cases h1 : xs 1 = 1
    · rw [x_at1 xs 1 h1]; exact x_count1 xs f g
    · exact x_r9 xs f g h0 h1
