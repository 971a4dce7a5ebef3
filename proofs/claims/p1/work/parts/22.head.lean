/-! the law's run, evaluated: its head, short scripts, the switch; made by wip/whole/gen/ops.py -/
def x_hh (f g : Nat → Value) : ab_H := x_n1 ++ x_n2 f g ++ [.inl (2, 1, fun _ => .long 0)]
def x_L0 : ab_L := [(4, .int 0), (3, .ref 17), (2, .ref 7), (1, .ref 0), (0, .float 0)]
set_option maxHeartbeats 4000000 in
theorem x_head (L : Nat) (xs : Nat → Int32) : ∃ f g : Nat → Value, x_G L xs 1000 0 23 x_L0 [] (x_hh f g) → x_G L xs 1000 0 0 [(0, .float 0)] [] [] := by
  obtain ⟨f, g, e2⟩ := x_i2 L xs
  refine ⟨f, g, fun e => ?_⟩
  refine xg_seg 2 (pc' := 4) (Lc' := [(0, .float 0)]) (S' := [.ref 0, .ref 0]) (h2 := x_n0) (fun n => rfl) ?_
  refine xg_ret (M := xM0) (N := xM10) (i := .invokespecial 50) (len := 3) (tg := 0) (j := 10) (as := [.ref 0]) (r := [.ref 0]) rfl rfl rfl rfl rfl rfl rfl rfl rfl ⟨Nat.le_of_ble_eq_true rfl, Nat.le_of_ble_eq_true rfl, by decide⟩ (x_i1 L xs) ?_
  refine xg_seg 3 (pc' := 12) (Lc' := [(1, .ref 0), (0, .float 0)]) (S' := [.ref 7, .ref 7]) (h2 := x_m0) (fun n => rfl) ?_
  refine xg_ret (M := xM0) (N := xM33) (i := .invokespecial 53) (len := 3) (tg := 0) (j := 33) (as := [.ref 7]) (r := [.ref 7]) rfl rfl rfl rfl rfl rfl rfl rfl rfl ⟨Nat.le_of_ble_eq_true rfl, Nat.le_of_ble_eq_true rfl, by decide⟩ e2 ?_
  exact xg_seg 6 (fun n => rfl) e
def x_go (xs : Nat → Int32) (f g : Nat → Value) (k : Int32) : Prop := x_G 6 xs 1000 0 40 x_L0 [.int k] (x_hh f g)
set_option maxHeartbeats 4000000 in
theorem x_switch (xs : Nat → Int32) (f g : Nat → Value) (h : x_go xs f g (xs 0 &&& 15)) : x_G 6 xs 1000 0 23 x_L0 [] (x_hh f g) := xg_seg 11 (fun n => rfl) h
theorem x_and15 (x : Int32) : ∃ k : Nat, k < 16 ∧ x &&& 15 = Int32.ofNat k := by
  refine ⟨(x &&& 15).toBitVec.toNat, ?_, ?_⟩
  · rw [Int32.toBitVec_and, BitVec.toNat_and]
    exact Nat.lt_succ_of_le (Nat.and_le_right)
  · apply Int32.toBitVec_inj.mp
    apply BitVec.eq_of_toNat_eq
    show _ = (Int32.ofNat _).toBitVec.toNat
    rw [Int32.toBitVec_ofNat']
    simp
