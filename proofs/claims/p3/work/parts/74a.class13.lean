/-! the class: part and unit -/
section XCR
variable {e : xE} {d q0 qt qb ql th ta qa qe len cap sz bh eh ba ea b : Nat} {gb : Nat → Int32} {h h' : ab_H} {kh ka : Int32} {G : List Value}
theorem c_unit {c w : Int32} (hS : c_S h q0 qt qb ql th ta qa qe gb len cap sz kh bh eh ka ba ea) (r1 : h.length + 1 ≤ e.2.2.2.1) (r2 : ab_sz h + 6 ≤ e.2.2.2.2.1) : xT e (d + 4) 101 0 [(0, .ref q0), (1, .int c), (2, .int w)] [] h (x_Q (fun v h' => (∃ z : Int32, v = some (.int z)) ∧ h' = h) (fun ce xq h' => c_TH h 6 ce xq h' ∨ c_TH h 8 ce xq h')) := by
  have hM : (x_mt e.1)[101]? = some xM101 := rfl
  obtain ⟨⟨F0, hq, lq, p0, p1, ⟨zp, p2⟩⟩, ⟨Ft, gl, kp, hT⟩, hH, hA, hht, ⟨Fa, ef, hL⟩, hY⟩ := id hS
  obtain ⟨ht, lt, t0, t1, t2, t3, t4, t5, hb8, hl8, k4, l4, hne⟩ := id hT
  obtain ⟨Fh, u0, u1, u2, u3, u5, ⟨x3, u6⟩, ⟨x4, u7⟩, ⟨x5, u8⟩⟩ := id hH
  obtain ⟨Fx, w0, w1, w2, w3, w5, ⟨y3, w6⟩, ⟨y4, w7⟩, ⟨y5, w8⟩⟩ := id hA
  have ha := hL.1
  refine xT.s1 hM rfl rfl ?_
  refine xT.s1 hM rfl rfl ?_
  refine xT.ca hM rfl rfl rfl rfl rfl rfl (xc_virt rfl rfl rfl hq ⟨rfl, Nat.le_of_ble_eq_true rfl, rfl, Or.inl rfl⟩) rfl ⟨Nat.le_of_ble_eq_true rfl, Nat.le_of_ble_eq_true rfl, by decide⟩ rfl (c_nodeAt hS r1 r2) (fun v h2 hv => ?_) (fun ce xq h3 he => Or.inl he)
  obtain ⟨jN, hjN, rfl, bbN, GbN, rfl, hbN, hh2⟩ := hv
  subst h2
  have ntN := hY _ _ hbN
  obtain ⟨lnN, ⟨z0N, g0N⟩, ⟨z1N, g1N⟩, ⟨z2N, g2N⟩, ⟨z3N, g3N⟩, ⟨z4N, g4N⟩, ⟨z5N, g5N⟩, -⟩ := id ntN
  refine xT.s1 hM rfl rfl ?_
  refine xT.s1 hM rfl rfl ?_
  refine xT.s1 hM rfl rfl ?_
  refine xT.br (fun b0 => ?_) (fun b0 => ?_)
  · exact xT.th hM rfl rfl rfl rfl rfl rfl rfl rfl rfl ⟨r1, r2⟩ (Or.inr ⟨rfl, rfl, rfl⟩)
  · refine xT.s1 hM rfl rfl ?_
    refine xT.s1 hM rfl rfl ?_
    refine xT.go hM rfl rfl rfl rfl rfl rfl (xc_virt rfl rfl rfl hbN ⟨rfl, Nat.le_of_ble_eq_true rfl, rfl, Or.inl rfl⟩) rfl ⟨Nat.le_of_ble_eq_true rfl, Nat.le_of_ble_eq_true rfl, by decide⟩ (c_units hbN ntN) (fun v h2 hv => ?_)
    obtain ⟨⟨y1x, rfl⟩, hh2⟩ := hv
    subst h2
    refine xT.s1 hM rfl rfl ?_
    refine xT.br (fun b1 => ?_) (fun b1 => ?_)
    · refine xT.s1 hM rfl rfl ?_
      refine xT.s2 hM rfl rfl (x2_get rfl (Or.inl rfl) hq p0) ?_
      refine xT.s1 hM rfl rfl ?_
      refine xT.s2 hM rfl rfl (x2_get rfl (Or.inl rfl) hbN g2N) ?_
      refine xT.s1 hM rfl rfl ?_
      refine xT.s1 hM rfl rfl ?_
      refine xT.go hM rfl rfl rfl rfl rfl rfl (xc_virt rfl rfl rfl ht ⟨rfl, Nat.le_of_ble_eq_true rfl, rfl, Or.inl rfl⟩) rfl ⟨Nat.le_of_ble_eq_true rfl, Nat.le_of_ble_eq_true rfl, by decide⟩ (c_letter hT) (fun v h2 hv => ?_)
      obtain ⟨⟨y2x, rfl⟩, hh2⟩ := hv
      subst h2
      exact xT.ret hM rfl rfl rfl rfl (⟨⟨_, rfl⟩, rfl⟩)
    · exact xT.th hM rfl rfl rfl rfl rfl rfl rfl rfl rfl ⟨r1, r2⟩ (Or.inr ⟨rfl, rfl, rfl⟩)
theorem c_ptLoop {bbN : Nat} {c w : Int32} (hS : c_S h q0 qt qb ql th ta qa qe gb len cap sz kh bh eh ka ba ea) : ∀ (m : Nat) (i : Int32) (a : Nat), (w.toInt - i.toInt).toNat < m → 0 ≤ i.toInt → a < 2 ^ 31 → xT e (d + 3) 99 36 [(5, .int i), (4, .int (nI a)), (3, .ref bbN), (0, .ref q0), (1, .int c), (2, .int w)] [] h (x_Q (fun v h' => (∃ z : Int32, v = some (.int z)) ∧ h' = h) (fun ce xq h' => c_TH h 6 ce xq h' ∨ c_TH h 8 ce xq h')) := by
  have hM : (x_mt e.1)[99]? = some xM99 := rfl
  obtain ⟨⟨F0, hq, lq, p0, p1, ⟨zp, p2⟩⟩, ⟨Ft, gl, kp, hT⟩, hH, hA, hht, ⟨Fa, ef, hL⟩, hY⟩ := id hS
  obtain ⟨ht, lt, t0, t1, t2, t3, t4, t5, hb8, hl8, k4, l4, hne⟩ := id hT
  obtain ⟨Fh, u0, u1, u2, u3, u5, ⟨x3, u6⟩, ⟨x4, u7⟩, ⟨x5, u8⟩⟩ := id hH
  obtain ⟨Fx, w0, w1, w2, w3, w5, ⟨y3, w6⟩, ⟨y4, w7⟩, ⟨y5, w8⟩⟩ := id hA
  have ha := hL.1
  intro m
  induction m with
  | zero => intro i a m1; omega
  | succ m ih =>
    intro i a m1 m2 ha31
    refine xT.s1 hM rfl rfl ?_
    refine xT.s1 hM rfl rfl ?_
    refine xT.s1 hM rfl rfl ?_
    refine xT.br (fun b0 => ?_) (fun b0 => ?_)
    · refine xT.s1 hM rfl rfl ?_
      exact xT.ret hM rfl rfl rfl rfl (⟨⟨_, rfl⟩, rfl⟩)
    · have hlt : i < w := Int32.not_le.mp b0
      refine xT.s1 hM rfl rfl ?_
      refine xT.s1 hM rfl rfl ?_
      refine xT.s2 hM rfl rfl (x2_get rfl (Or.inl rfl) hq p1) ?_
      refine xT.go hM rfl rfl rfl rfl rfl rfl (xc_virt rfl rfl rfl ha ⟨rfl, Nat.le_of_ble_eq_true rfl, rfl, Or.inl rfl⟩) rfl ⟨Nat.le_of_ble_eq_true rfl, Nat.le_of_ble_eq_true rfl, by decide⟩ (c_size hL) (fun v h2 hv => ?_)
      obtain ⟨rfl, hh2⟩ := hv
      subst h2
      refine xT.s1 hM rfl rfl ?_
      refine xT.br (fun b1 => ?_) (fun b1 => ?_)
      · refine xT.s1 hM rfl rfl ?_
        exact xT.ret hM rfl rfl rfl rfl (⟨⟨_, rfl⟩, rfl⟩)
      · have hlt2 := Int32.not_le.mp b1
        have hjs : a < sz := (nI_ltI ha31 (by have := hL.2.2.2.2.2.1; have := hL.2.2.2.2.2.2.1; omega)).mp hlt2
        refine xT.s1 hM rfl rfl ?_
        refine xT.s2 hM rfl rfl (x2_get rfl (Or.inl rfl) hq p1) ?_
        refine xT.s1 hM rfl rfl ?_
        refine xT.go hM rfl rfl rfl rfl rfl rfl (xc_virt rfl rfl rfl ha ⟨rfl, Nat.le_of_ble_eq_true rfl, rfl, Or.inl rfl⟩) rfl ⟨Nat.le_of_ble_eq_true rfl, Nat.le_of_ble_eq_true rfl, by decide⟩ (c_get hL hjs) (fun v h2 hv => ?_)
        obtain ⟨⟨bbP, GbP, rfl, hbP⟩, hh2⟩ := hv
        subst h2
        refine xT.ckN hM rfl rfl rfl rfl hbP ?_
        obtain ⟨lnP, -, -, -, -, -, -, aP, g6P, ha2⟩ := hY _ _ hbP
        refine xT.s2 hM rfl rfl (x2_get rfl (Or.inl rfl) hbP g6P) ?_
        refine xT.s1 hM rfl rfl ?_
        refine xT.s1 hM rfl rfl ?_
        refine xT.s1 hM rfl rfl ?_
        exact xT.weak (L' := [(5, _), (4, _), (3, _), (0, _), (1, _), (2, _)]) ⟨by simp, by simp⟩ (ih (i + Int32.ofInt 1) aP (x_cnt1 hlt m1 m2).1 (x_cnt1 hlt m1 m2).2 ha2)
theorem c_part {c w : Int32} (hS : c_S h q0 qt qb ql th ta qa qe gb len cap sz kh bh eh ka ba ea) (r1 : h.length + 1 ≤ e.2.2.2.1) (r2 : ab_sz h + 6 ≤ e.2.2.2.2.1) : xT e (d + 4) 99 0 [(0, .ref q0), (1, .int c), (2, .int w)] [] h (x_Q (fun v h' => (∃ z : Int32, v = some (.int z)) ∧ h' = h) (fun ce xq h' => c_TH h 6 ce xq h' ∨ c_TH h 8 ce xq h')) := by
  have hM : (x_mt e.1)[99]? = some xM99 := rfl
  obtain ⟨⟨F0, hq, lq, p0, p1, ⟨zp, p2⟩⟩, ⟨Ft, gl, kp, hT⟩, hH, hA, hht, ⟨Fa, ef, hL⟩, hY⟩ := id hS
  obtain ⟨ht, lt, t0, t1, t2, t3, t4, t5, hb8, hl8, k4, l4, hne⟩ := id hT
  obtain ⟨Fh, u0, u1, u2, u3, u5, ⟨x3, u6⟩, ⟨x4, u7⟩, ⟨x5, u8⟩⟩ := id hH
  obtain ⟨Fx, w0, w1, w2, w3, w5, ⟨y3, w6⟩, ⟨y4, w7⟩, ⟨y5, w8⟩⟩ := id hA
  have ha := hL.1
  refine xT.s1 hM rfl rfl ?_
  refine xT.s1 hM rfl rfl ?_
  refine xT.ca hM rfl rfl rfl rfl rfl rfl (xc_virt rfl rfl rfl hq ⟨rfl, Nat.le_of_ble_eq_true rfl, rfl, Or.inl rfl⟩) rfl ⟨Nat.le_of_ble_eq_true rfl, Nat.le_of_ble_eq_true rfl, by decide⟩ rfl (c_nodeAt hS r1 r2) (fun v h2 hv => ?_) (fun ce xq h3 he => Or.inl he)
  obtain ⟨jN, hjN, rfl, bbN, GbN, rfl, hbN, hh2⟩ := hv
  subst h2
  have ntN := hY _ _ hbN
  obtain ⟨lnN, ⟨z0N, g0N⟩, ⟨z1N, g1N⟩, ⟨z2N, g2N⟩, ⟨z3N, g3N⟩, ⟨z4N, g4N⟩, ⟨z5N, g5N⟩, -⟩ := id ntN
  refine xT.s1 hM rfl rfl ?_
  refine xT.s1 hM rfl rfl ?_
  refine xT.s1 hM rfl rfl ?_
  refine xT.br (fun b0 => ?_) (fun b0 => ?_)
  · exact xT.th hM rfl rfl rfl rfl rfl rfl rfl rfl rfl ⟨r1, r2⟩ (Or.inr ⟨rfl, rfl, rfl⟩)
  · refine xT.s1 hM rfl rfl ?_
    refine xT.s1 hM rfl rfl ?_
    refine xT.s2 hM rfl rfl (x2_get rfl (Or.inl rfl) hbN g5N) ?_
    refine xT.s1 hM rfl rfl ?_
    refine xT.br (fun b1 => ?_) (fun b1 => ?_)
    · refine xT.s1 hM rfl rfl ?_
      refine xT.s1 hM rfl rfl ?_
      refine xT.s1 hM rfl rfl ?_
      rw [show nI jN + Int32.ofInt 1 = nI (jN + 1) from nI_add jN 1]
      refine xT.s1 hM rfl rfl ?_
      refine xT.s1 hM rfl rfl ?_
      refine xT.s1 hM rfl rfl ?_
      exact c_ptLoop (d := d + 1) hS ((w.toInt - (Int32.ofInt 0).toInt).toNat + 1) _ (jN + 1) (by omega) (by decide) (by have := hL.2.2.2.2.2.1; have := hL.2.2.2.2.2.2.1; omega)
    · exact xT.th hM rfl rfl rfl rfl rfl rfl rfl rfl rfl ⟨r1, r2⟩ (Or.inr ⟨rfl, rfl, rfl⟩)
end XCR
