/-! the class: its other calls -/
/-- thrown, and nothing else done -/
def c_TH (h : ab_H) (c0 : Nat) (ce xq : Nat) (h' : ab_H) : Prop := ce = c0 ∧ xq = h.length ∧ h' = h ++ [.inr (c0, List.replicate 6 .null)]
section XCQ
variable {e : xE} {d q0 qt qb ql th ta qa qe len cap sz bh eh ba ea b : Nat} {gb : Nat → Int32} {h h' : ab_H} {kh ka : Int32} {G : List Value}
theorem xT.ckN {mi pc len2 tg x j2 nx : Nat} {L : ab_L} {S : List Value} {Q : ab_O → ab_H → Prop} {M : ab_M} {fl : Value} (hM : (x_mt e.1)[mi]? = some M) (hf : ab_fe M pc = some (.checkcast x, len2, tg)) (hp : my_p M x = some (12, 10, nx, fl)) (h7 : ab_th M pc = none) (h8 : ab_th0 M pc = none) (hj : h[j2]? = some (.inr (10, G))) (t : xT e d mi (pc + 3) L (.ref j2 :: S) h Q) : xT e d mi pc L (.ref j2 :: S) h Q :=
  xT.s4 hM hf rfl rfl rfl rfl rfl rfl h7 h8 (by simp only [ab_s4, hp, hj, if_true]) t
/-- bytes are put -/
theorem c_putS {c : Int32} (hS : c_S h q0 qt qb ql th ta qa qe gb len cap sz kh bh eh ka ba ea) (hl4 : len + 4 ≤ 4096) : xT e d 123 0 [(0, .ref qt), (1, .int c)] [] h (fun o h' => ∃ v, o = .inl v ∧ v = none ∧ ∃ gb', c_S h' q0 qt qb ql th ta qa qe gb' (len + 4) cap sz kh bh eh ka ba ea ∧ c_fr h h' qb ql ∧ h'.length = h.length ∧ ab_sz h' = ab_sz h) := by
  obtain ⟨⟨F0, hq, r0⟩, ⟨Ft, gl, kp, hT⟩, hH, hA, hht, ⟨Fa, ef, ha, la, f1, f2, hd, hs, hc, hN⟩, hY⟩ := hS
  refine (c_put hT hl4).mono (fun o h' ho => ?_)
  obtain ⟨v, y1, y2, F', gb', y3, y4, y5, y6, y7⟩ := ho
  have ht := hT.1
  have hb8 := hT.2.2.2.2.2.2.2.2.1
  have ko : ∀ (k ci : Nat) (F : List Value), h[k]? = some (.inr (ci, F)) → ci ≠ 1 → h'[k]? = some (.inr (ci, F)) := fun k ci F hk hc => (y5 k (x_neq hk ht (by simp; omega)) (x_neq hk hb8 (by simp))).trans hk
  refine ⟨v, y1, y2, gb', ⟨⟨F0, ko _ _ _ hq (by decide), r0⟩, ⟨F', gl, kp, y3⟩, hH.kept (fun F hk => ko _ _ _ hk (by decide)), hA.kept (fun F hk => ko _ _ _ hk (by decide)), hht, ⟨Fa, ef, ko _ _ _ ha (by decide), la, f1, f2, ?_, hs, hc, fun i hi => (hN i hi).kept (fun k G hk => ⟨G, ko _ _ _ hk (by decide)⟩)⟩, fun k F hk => ?_⟩, fun k x hk n1 n2 n3 n4 => ?_, y6, y7⟩
  · rcases hd with z | ⟨z1, z2, z3⟩
    · exact Or.inl z
    · exact Or.inr ⟨z1, (y5 _ (x_neq z2 ht (by simp)) (x_neq z2 hb8 (by simp))).trans z2, z3⟩
  · rw [y5 k (x_neq hk y3.1 (by simp)) (x_neq hk y3.2.2.2.2.2.2.2.2.1 (by simp))] at hk
    exact hY k F hk
  · exact (y5 k (fun z => by subst z; rw [ht] at hk; exact absurd rfl (n3 1 Ft (Option.some.inj hk).symm).2.1) n1).trans hk
theorem c_feed {va vb vc vd ve : Int32} (hS : c_S h q0 qt qb ql th ta qa qe gb len cap sz kh bh eh ka ba ea) (r1 : h.length + 1 ≤ e.2.2.2.1) (r2 : ab_sz h + 6 ≤ e.2.2.2.2.1) : xT e (d + 1) 94 0 [(0, .ref q0), (1, .int va), (2, .int vb), (3, .int vc), (4, .int vd), (5, .int ve)] [] h (x_Q (fun v h' => len ≤ 4076 ∧ v = some (.int (nI (len + 4 + 4 + 4 + 4 + 4))) ∧ ∃ gb', c_S h' q0 qt qb ql th ta qa qe gb' (len + 4 + 4 + 4 + 4 + 4) cap sz kh bh eh ka ba ea ∧ c_fr h h' qb ql ∧ h'.length = h.length ∧ ab_sz h' = ab_sz h) (fun ce xq h' => ¬ len ≤ 4076 ∧ c_TH h 5 ce xq h')) := by
  have hM : (x_mt e.1)[94]? = some xM94 := rfl
  obtain ⟨⟨F0, hq, lq, p0, p1, ⟨zp, p2⟩⟩, ⟨Ft, gl, kp, hT⟩, hH, hA, hht, ⟨Fa, ef, hL⟩, hY⟩ := id hS
  obtain ⟨ht, lt, t0, t1, t2, t3, t4, t5, hb8, hl8, k4, l4, hne⟩ := id hT
  obtain ⟨Fh, u0, u1, u2, u3, u5, ⟨x3, u6⟩, ⟨x4, u7⟩, ⟨x5, u8⟩⟩ := id hH
  obtain ⟨Fx, w0, w1, w2, w3, w5, ⟨y3, w6⟩, ⟨y4, w7⟩, ⟨y5, w8⟩⟩ := id hA
  have ha := hL.1
  refine xT.s1 hM rfl rfl ?_
  refine xT.s2 hM rfl rfl (x2_get rfl (Or.inl rfl) hq p0) ?_
  refine xT.s2 hM rfl rfl (x2_get rfl (Or.inl rfl) ht t3) ?_
  refine xT.s1 hM rfl rfl ?_
  refine xT.s1 hM rfl rfl ?_
  refine xT.br (fun b0 => ?_) (fun b0 => ?_)
  · have hle : len ≤ 4076 := (nI_leI (b := 4076) (by omega) (by omega)).mp b0
    refine xT.s1 hM rfl rfl ?_
    refine xT.s2 hM rfl rfl (x2_get rfl (Or.inl rfl) hq p0) ?_
    refine xT.s1 hM rfl rfl ?_
    refine xT.go hM rfl rfl rfl rfl rfl rfl (xc_virt rfl rfl rfl ht ⟨rfl, Nat.le_of_ble_eq_true rfl, rfl, Or.inl rfl⟩) rfl ⟨Nat.le_of_ble_eq_true rfl, Nat.le_of_ble_eq_true rfl, by decide⟩ (c_putS hS (by omega)) (fun v h0 hv => ?_)
    obtain ⟨rfl, gb0, hS0, fa0, ln0, sn0⟩ := hv
    replace hS := hS0
    obtain ⟨⟨F0, hq, lq, p0, p1, ⟨zp, p2⟩⟩, ⟨Ft, gl, kp, hT⟩, hH, hA, hht, ⟨Fa, ef, hL⟩, hY⟩ := id hS
    obtain ⟨ht, lt, t0, t1, t2, t3, t4, t5, hb8, hl8, k4, l4, hne⟩ := id hT
    obtain ⟨Fh, u0, u1, u2, u3, u5, ⟨x3, u6⟩, ⟨x4, u7⟩, ⟨x5, u8⟩⟩ := id hH
    obtain ⟨Fx, w0, w1, w2, w3, w5, ⟨y3, w6⟩, ⟨y4, w7⟩, ⟨y5, w8⟩⟩ := id hA
    have ha := hL.1
    refine xT.s1 hM rfl rfl ?_
    refine xT.s2 hM rfl rfl (x2_get rfl (Or.inl rfl) hq p0) ?_
    refine xT.s1 hM rfl rfl ?_
    refine xT.go hM rfl rfl rfl rfl rfl rfl (xc_virt rfl rfl rfl ht ⟨rfl, Nat.le_of_ble_eq_true rfl, rfl, Or.inl rfl⟩) rfl ⟨Nat.le_of_ble_eq_true rfl, Nat.le_of_ble_eq_true rfl, by decide⟩ (c_putS hS (by omega)) (fun v h1 hv => ?_)
    obtain ⟨rfl, gb1, hS1, fa1, ln1, sn1⟩ := hv
    replace hS := hS1
    obtain ⟨⟨F0, hq, lq, p0, p1, ⟨zp, p2⟩⟩, ⟨Ft, gl, kp, hT⟩, hH, hA, hht, ⟨Fa, ef, hL⟩, hY⟩ := id hS
    obtain ⟨ht, lt, t0, t1, t2, t3, t4, t5, hb8, hl8, k4, l4, hne⟩ := id hT
    obtain ⟨Fh, u0, u1, u2, u3, u5, ⟨x3, u6⟩, ⟨x4, u7⟩, ⟨x5, u8⟩⟩ := id hH
    obtain ⟨Fx, w0, w1, w2, w3, w5, ⟨y3, w6⟩, ⟨y4, w7⟩, ⟨y5, w8⟩⟩ := id hA
    have ha := hL.1
    refine xT.s1 hM rfl rfl ?_
    refine xT.s2 hM rfl rfl (x2_get rfl (Or.inl rfl) hq p0) ?_
    refine xT.s1 hM rfl rfl ?_
    refine xT.go hM rfl rfl rfl rfl rfl rfl (xc_virt rfl rfl rfl ht ⟨rfl, Nat.le_of_ble_eq_true rfl, rfl, Or.inl rfl⟩) rfl ⟨Nat.le_of_ble_eq_true rfl, Nat.le_of_ble_eq_true rfl, by decide⟩ (c_putS hS (by omega)) (fun v h2 hv => ?_)
    obtain ⟨rfl, gb2, hS2, fa2, ln2, sn2⟩ := hv
    replace hS := hS2
    obtain ⟨⟨F0, hq, lq, p0, p1, ⟨zp, p2⟩⟩, ⟨Ft, gl, kp, hT⟩, hH, hA, hht, ⟨Fa, ef, hL⟩, hY⟩ := id hS
    obtain ⟨ht, lt, t0, t1, t2, t3, t4, t5, hb8, hl8, k4, l4, hne⟩ := id hT
    obtain ⟨Fh, u0, u1, u2, u3, u5, ⟨x3, u6⟩, ⟨x4, u7⟩, ⟨x5, u8⟩⟩ := id hH
    obtain ⟨Fx, w0, w1, w2, w3, w5, ⟨y3, w6⟩, ⟨y4, w7⟩, ⟨y5, w8⟩⟩ := id hA
    have ha := hL.1
    refine xT.s1 hM rfl rfl ?_
    refine xT.s2 hM rfl rfl (x2_get rfl (Or.inl rfl) hq p0) ?_
    refine xT.s1 hM rfl rfl ?_
    refine xT.go hM rfl rfl rfl rfl rfl rfl (xc_virt rfl rfl rfl ht ⟨rfl, Nat.le_of_ble_eq_true rfl, rfl, Or.inl rfl⟩) rfl ⟨Nat.le_of_ble_eq_true rfl, Nat.le_of_ble_eq_true rfl, by decide⟩ (c_putS hS (by omega)) (fun v h3 hv => ?_)
    obtain ⟨rfl, gb3, hS3, fa3, ln3, sn3⟩ := hv
    replace hS := hS3
    obtain ⟨⟨F0, hq, lq, p0, p1, ⟨zp, p2⟩⟩, ⟨Ft, gl, kp, hT⟩, hH, hA, hht, ⟨Fa, ef, hL⟩, hY⟩ := id hS
    obtain ⟨ht, lt, t0, t1, t2, t3, t4, t5, hb8, hl8, k4, l4, hne⟩ := id hT
    obtain ⟨Fh, u0, u1, u2, u3, u5, ⟨x3, u6⟩, ⟨x4, u7⟩, ⟨x5, u8⟩⟩ := id hH
    obtain ⟨Fx, w0, w1, w2, w3, w5, ⟨y3, w6⟩, ⟨y4, w7⟩, ⟨y5, w8⟩⟩ := id hA
    have ha := hL.1
    refine xT.s1 hM rfl rfl ?_
    refine xT.s2 hM rfl rfl (x2_get rfl (Or.inl rfl) hq p0) ?_
    refine xT.s1 hM rfl rfl ?_
    refine xT.go hM rfl rfl rfl rfl rfl rfl (xc_virt rfl rfl rfl ht ⟨rfl, Nat.le_of_ble_eq_true rfl, rfl, Or.inl rfl⟩) rfl ⟨Nat.le_of_ble_eq_true rfl, Nat.le_of_ble_eq_true rfl, by decide⟩ (c_putS hS (by omega)) (fun v h4 hv => ?_)
    obtain ⟨rfl, gb4, hS4, fa4, ln4, sn4⟩ := hv
    replace hS := hS4
    obtain ⟨⟨F0, hq, lq, p0, p1, ⟨zp, p2⟩⟩, ⟨Ft, gl, kp, hT⟩, hH, hA, hht, ⟨Fa, ef, hL⟩, hY⟩ := id hS
    obtain ⟨ht, lt, t0, t1, t2, t3, t4, t5, hb8, hl8, k4, l4, hne⟩ := id hT
    obtain ⟨Fh, u0, u1, u2, u3, u5, ⟨x3, u6⟩, ⟨x4, u7⟩, ⟨x5, u8⟩⟩ := id hH
    obtain ⟨Fx, w0, w1, w2, w3, w5, ⟨y3, w6⟩, ⟨y4, w7⟩, ⟨y5, w8⟩⟩ := id hA
    have ha := hL.1
    refine xT.s1 hM rfl rfl ?_
    refine xT.s2 hM rfl rfl (x2_get rfl (Or.inl rfl) hq p0) ?_
    refine xT.s2 hM rfl rfl (x2_get rfl (Or.inl rfl) ht t3) ?_
    exact xT.ret hM rfl rfl rfl rfl (⟨hle, rfl, gb4, hS, (((fa0.tr fa1).tr fa2).tr fa3).tr fa4, by rw [ln4, ln3, ln2, ln1, ln0], by rw [sn4, sn3, sn2, sn1, sn0]⟩)
  · exact xT.th hM rfl rfl rfl rfl rfl rfl rfl rfl rfl ⟨r1, r2⟩ ⟨fun z => b0 (nI_le (b := 4076) z (by omega)), rfl, rfl, rfl⟩
theorem c_end {c : Int32} (hS : c_S h q0 qt qb ql th ta qa qe gb len cap sz kh bh eh ka ba ea) (r1 : h.length + 1 ≤ e.2.2.2.1) (r2 : ab_sz h + 6 ≤ e.2.2.2.2.1) : xT e d 95 0 [(0, .ref q0), (1, .int c)] [] h (x_Q (fun v h' => ¬ c < 0 ∧ ¬ nI len < c ∧ v = some (.int c) ∧ ∃ j, c = nI j ∧ c_S h' q0 qt qb ql th ta qa qe gb j cap sz kh bh eh ka ba ea ∧ c_fr h h' qb ql ∧ h'.length = h.length ∧ ab_sz h' = ab_sz h) (fun ce xq h' => (c < 0 ∨ nI len < c) ∧ c_TH h 6 ce xq h')) := by
  have hM : (x_mt e.1)[95]? = some xM95 := rfl
  obtain ⟨⟨F0, hq, lq, p0, p1, ⟨zp, p2⟩⟩, ⟨Ft, gl, kp, hT⟩, hH, hA, hht, ⟨Fa, ef, hL⟩, hY⟩ := id hS
  obtain ⟨ht, lt, t0, t1, t2, t3, t4, t5, hb8, hl8, k4, l4, hne⟩ := id hT
  obtain ⟨Fh, u0, u1, u2, u3, u5, ⟨x3, u6⟩, ⟨x4, u7⟩, ⟨x5, u8⟩⟩ := id hH
  obtain ⟨Fx, w0, w1, w2, w3, w5, ⟨y3, w6⟩, ⟨y4, w7⟩, ⟨y5, w8⟩⟩ := id hA
  have ha := hL.1
  refine xT.s1 hM rfl rfl ?_
  refine xT.s1 hM rfl rfl ?_
  refine xT.br (fun b0 => ?_) (fun b0 => ?_)
  · exact xT.th hM rfl rfl rfl rfl rfl rfl rfl rfl rfl ⟨r1, r2⟩ ⟨Or.inl b0, rfl, rfl, rfl⟩
  · refine xT.s1 hM rfl rfl ?_
    refine xT.s1 hM rfl rfl ?_
    refine xT.s2 hM rfl rfl (x2_get rfl (Or.inl rfl) hq p0) ?_
    refine xT.s2 hM rfl rfl (x2_get rfl (Or.inl rfl) ht t3) ?_
    refine xT.s1 hM rfl rfl ?_
    refine xT.br (fun b1 => ?_) (fun b1 => ?_)
    · obtain ⟨j, hj, rfl⟩ := nI_of b0
      have hjl : j ≤ len := (nI_leI hj (by omega)).mp b1
      refine xT.s1 hM rfl rfl ?_
      refine xT.s2 hM rfl rfl (x2_get rfl (Or.inl rfl) hq p0) ?_
      refine xT.s1 hM rfl rfl ?_
      refine xT.put hM rfl rfl ht (Or.inl rfl) (by rw [lt]; decide) (rfl) (Or.inl rfl) (fun h1 F1 eF eh1 up fb fo fl => ?_)
      obtain ⟨s1, s2, s3⟩ := hS.len2 (len2 := j) ht up fl fb fo (by omega)
      refine xT.s1 hM rfl rfl ?_
      exact xT.ret hM rfl rfl rfl rfl (⟨b0, Int32.not_lt.mpr b1, rfl, j, rfl, s1, s2, up.2.2.1, up.2.2.2⟩)
    · exact xT.th hM rfl rfl rfl rfl rfl rfl rfl rfl rfl ⟨r1, r2⟩ ⟨Or.inr (Int32.not_le.mp b1), rfl, rfl, rfl⟩
theorem c_place (hS : c_S h q0 qt qb ql th ta qa qe gb len cap sz kh bh eh ka ba ea) : xT e d 97 0 [(0, .ref q0)] [] h (fun o h' => ∃ v, o = .inl v ∧ (∃ z : Int32, v = some (.int z)) ∧ h' = h) := by
  have hM : (x_mt e.1)[97]? = some xM97 := rfl
  obtain ⟨⟨F0, hq, lq, p0, p1, ⟨zp, p2⟩⟩, ⟨Ft, gl, kp, hT⟩, hH, hA, hht, ⟨Fa, ef, hL⟩, hY⟩ := id hS
  obtain ⟨ht, lt, t0, t1, t2, t3, t4, t5, hb8, hl8, k4, l4, hne⟩ := id hT
  obtain ⟨Fh, u0, u1, u2, u3, u5, ⟨x3, u6⟩, ⟨x4, u7⟩, ⟨x5, u8⟩⟩ := id hH
  obtain ⟨Fx, w0, w1, w2, w3, w5, ⟨y3, w6⟩, ⟨y4, w7⟩, ⟨y5, w8⟩⟩ := id hA
  have ha := hL.1
  refine xT.s1 hM rfl rfl ?_
  refine xT.s2 hM rfl rfl (x2_get rfl (Or.inl rfl) hq p2) ?_
  exact xT.ret hM rfl rfl rfl rfl (⟨_, rfl, ⟨_, rfl⟩, rfl⟩)
theorem c_count {c : Int32} (hS : c_S h q0 qt qb ql th ta qa qe gb len cap sz kh bh eh ka ba ea) (r1 : h.length + 1 ≤ e.2.2.2.1) (r2 : ab_sz h + 6 ≤ e.2.2.2.2.1) : xT e (d + 1) 103 0 [(0, .ref q0), (1, .int c)] [] h (x_Q (fun v h' => (∃ z : Int32, v = some (.int z)) ∧ h' = h) (fun ce xq h' => c_TH h 6 ce xq h')) := by
  have hM : (x_mt e.1)[103]? = some xM103 := rfl
  obtain ⟨⟨F0, hq, lq, p0, p1, ⟨zp, p2⟩⟩, ⟨Ft, gl, kp, hT⟩, hH, hA, hht, ⟨Fa, ef, hL⟩, hY⟩ := id hS
  obtain ⟨ht, lt, t0, t1, t2, t3, t4, t5, hb8, hl8, k4, l4, hne⟩ := id hT
  obtain ⟨Fh, u0, u1, u2, u3, u5, ⟨x3, u6⟩, ⟨x4, u7⟩, ⟨x5, u8⟩⟩ := id hH
  obtain ⟨Fx, w0, w1, w2, w3, w5, ⟨y3, w6⟩, ⟨y4, w7⟩, ⟨y5, w8⟩⟩ := id hA
  have ha := hL.1
  have j19 : xT e (d + 1) 103 19 [(0, .ref q0), (1, .int c)] [] h (x_Q (fun v h' => (∃ z : Int32, v = some (.int z)) ∧ h' = h) (fun ce xq h' => c_TH h 6 ce xq h')) := by
    refine xT.s1 hM rfl rfl ?_
    refine xT.s1 hM rfl rfl ?_
    refine xT.br (fun b2 => ?_) (fun b2 => ?_)
    · refine xT.s1 hM rfl rfl ?_
      refine xT.s2 hM rfl rfl (x2_get rfl (Or.inl rfl) hq p0) ?_
      refine xT.s2 hM rfl rfl (x2_get rfl (Or.inl rfl) ht t3) ?_
      refine xT.s1 hM rfl rfl ?_
      exact xT.ret hM rfl rfl rfl rfl (⟨⟨_, rfl⟩, rfl⟩)
    · refine xT.s1 hM rfl rfl ?_
      refine xT.s2 hM rfl rfl (x2_get rfl (Or.inl rfl) hq p1) ?_
      refine xT.go hM rfl rfl rfl rfl rfl rfl (xc_virt rfl rfl rfl ha ⟨rfl, Nat.le_of_ble_eq_true rfl, rfl, Or.inl rfl⟩) rfl ⟨Nat.le_of_ble_eq_true rfl, Nat.le_of_ble_eq_true rfl, by decide⟩ (c_size hL) (fun v h2 hv => ?_)
      obtain ⟨rfl, hh2⟩ := hv
      subst h2
      exact xT.ret hM rfl rfl rfl rfl (⟨⟨_, rfl⟩, rfl⟩)
  refine xT.s1 hM rfl rfl ?_
  refine xT.s1 hM rfl rfl ?_
  refine xT.br (fun b0 => ?_) (fun b0 => ?_)
  · exact j19
  · refine xT.s1 hM rfl rfl ?_
    refine xT.s1 hM rfl rfl ?_
    refine xT.s1 hM rfl rfl ?_
    refine xT.br (fun b1 => ?_) (fun b1 => ?_)
    · exact j19
    · exact xT.th hM rfl rfl rfl rfl rfl rfl rfl rfl rfl ⟨r1, r2⟩ ⟨rfl, rfl, rfl⟩
theorem c_nodeAt {c : Int32} (hS : c_S h q0 qt qb ql th ta qa qe gb len cap sz kh bh eh ka ba ea) (r1 : h.length + 1 ≤ e.2.2.2.1) (r2 : ab_sz h + 6 ≤ e.2.2.2.2.1) : xT e (d + 3) 104 0 [(0, .ref q0), (1, .int c)] [] h (x_Q (fun v h' => ∃ j, j < sz ∧ c = nI j ∧ ∃ bb Gb, v = some (.ref bb) ∧ h[bb]? = some (.inr (10, Gb)) ∧ h' = h) (fun ce xq h' => c_TH h 6 ce xq h')) := by
  have hM : (x_mt e.1)[104]? = some xM104 := rfl
  obtain ⟨⟨F0, hq, lq, p0, p1, ⟨zp, p2⟩⟩, ⟨Ft, gl, kp, hT⟩, hH, hA, hht, ⟨Fa, ef, hL⟩, hY⟩ := id hS
  obtain ⟨ht, lt, t0, t1, t2, t3, t4, t5, hb8, hl8, k4, l4, hne⟩ := id hT
  obtain ⟨Fh, u0, u1, u2, u3, u5, ⟨x3, u6⟩, ⟨x4, u7⟩, ⟨x5, u8⟩⟩ := id hH
  obtain ⟨Fx, w0, w1, w2, w3, w5, ⟨y3, w6⟩, ⟨y4, w7⟩, ⟨y5, w8⟩⟩ := id hA
  have ha := hL.1
  refine xT.s1 hM rfl rfl ?_
  refine xT.s1 hM rfl rfl ?_
  refine xT.br (fun b0 => ?_) (fun b0 => ?_)
  · exact xT.th hM rfl rfl rfl rfl rfl rfl rfl rfl rfl ⟨r1, r2⟩ ⟨rfl, rfl, rfl⟩
  · refine xT.s1 hM rfl rfl ?_
    refine xT.s1 hM rfl rfl ?_
    refine xT.s2 hM rfl rfl (x2_get rfl (Or.inl rfl) hq p1) ?_
    refine xT.go hM rfl rfl rfl rfl rfl rfl (xc_virt rfl rfl rfl ha ⟨rfl, Nat.le_of_ble_eq_true rfl, rfl, Or.inl rfl⟩) rfl ⟨Nat.le_of_ble_eq_true rfl, Nat.le_of_ble_eq_true rfl, by decide⟩ (c_size hL) (fun v h2 hv => ?_)
    obtain ⟨rfl, hh2⟩ := hv
    subst h2
    refine xT.s1 hM rfl rfl ?_
    refine xT.br (fun b1 => ?_) (fun b1 => ?_)
    · obtain ⟨j, hj, rfl⟩ := nI_of b0
      have hjs : j < sz := (nI_ltI hj (by have := hL.2.2.2.2.2.1; have := hL.2.2.2.2.2.2.1; omega)).mp b1
      refine xT.s1 hM rfl rfl ?_
      refine xT.s2 hM rfl rfl (x2_get rfl (Or.inl rfl) hq p1) ?_
      refine xT.s1 hM rfl rfl ?_
      refine xT.go hM rfl rfl rfl rfl rfl rfl (xc_virt rfl rfl rfl ha ⟨rfl, Nat.le_of_ble_eq_true rfl, rfl, Or.inl rfl⟩) rfl ⟨Nat.le_of_ble_eq_true rfl, Nat.le_of_ble_eq_true rfl, by decide⟩ (c_get hL hjs) (fun v h2 hv => ?_)
      obtain ⟨⟨bb, Gb, rfl, y2⟩, hh2⟩ := hv
      subst h2
      refine xT.ckN hM rfl rfl rfl rfl y2 ?_
      exact xT.ret hM rfl rfl rfl rfl (⟨j, hjs, rfl, bb, Gb, rfl, y2, rfl⟩)
    · exact xT.th hM rfl rfl rfl rfl rfl rfl rfl rfl rfl ⟨r1, r2⟩ ⟨rfl, rfl, rfl⟩
theorem c_number {c : Int32} (hS : c_S h q0 qt qb ql th ta qa qe gb len cap sz kh bh eh ka ba ea) (r1 : h.length + 1 ≤ e.2.2.2.1) (r2 : ab_sz h + 6 ≤ e.2.2.2.2.1) : xT e (d + 4) 100 0 [(0, .ref q0), (1, .int c)] [] h (x_Q (fun v h' => (∃ z : Int64, v = some (.long z)) ∧ h' = h) (fun ce xq h' => c_TH h 6 ce xq h' ∨ c_TH h 7 ce xq h')) := by
  have hM : (x_mt e.1)[100]? = some xM100 := rfl
  obtain ⟨⟨F0, hq, lq, p0, p1, ⟨zp, p2⟩⟩, ⟨Ft, gl, kp, hT⟩, hH, hA, hht, ⟨Fa, ef, hL⟩, hY⟩ := id hS
  obtain ⟨ht, lt, t0, t1, t2, t3, t4, t5, hb8, hl8, k4, l4, hne⟩ := id hT
  obtain ⟨Fh, u0, u1, u2, u3, u5, ⟨x3, u6⟩, ⟨x4, u7⟩, ⟨x5, u8⟩⟩ := id hH
  obtain ⟨Fx, w0, w1, w2, w3, w5, ⟨y3, w6⟩, ⟨y4, w7⟩, ⟨y5, w8⟩⟩ := id hA
  have ha := hL.1
  refine xT.s1 hM rfl rfl ?_
  refine xT.s1 hM rfl rfl ?_
  refine xT.ca hM rfl rfl rfl rfl rfl rfl (xc_virt rfl rfl rfl hq ⟨rfl, Nat.le_of_ble_eq_true rfl, rfl, Or.inl rfl⟩) rfl ⟨Nat.le_of_ble_eq_true rfl, Nat.le_of_ble_eq_true rfl, by decide⟩ rfl (c_nodeAt hS r1 r2) (fun v h2 hv => ?_) (fun ce xq h3 he => Or.inl he)
  obtain ⟨jN, hjN, rfl, bbN, GbN, rfl, hbN, hh2⟩ := hv
  subst h2
  have ntN := hY _ _ hbN
  obtain ⟨lnN, ⟨z0N, g0N⟩, ⟨z1N, g1N⟩, ⟨z2N, g2N⟩, ⟨z3N, g3N⟩, ⟨z4N, g4N⟩, ⟨z5N, g5N⟩, -⟩ := id ntN
  refine xT.s1 hM rfl rfl ?_
  refine xT.s1 hM rfl rfl ?_
  refine xT.s2 hM rfl rfl (x2_get rfl (Or.inl rfl) hbN g0N) ?_
  refine xT.s1 hM rfl rfl ?_
  refine xT.s1 hM rfl rfl ?_
  refine xT.br (fun b0 => ?_) (fun b0 => ?_)
  · refine xT.s1 hM rfl rfl ?_
    refine xT.s2 hM rfl rfl (x2_get rfl (Or.inl rfl) hbN g4N) ?_
    exact xT.ret hM rfl rfl rfl rfl (⟨⟨_, rfl⟩, rfl⟩)
  · exact xT.th hM rfl rfl rfl rfl rfl rfl rfl rfl rfl ⟨r1, r2⟩ (Or.inr ⟨rfl, rfl, rfl⟩)
theorem c_sw4 (w : Int32) : ∃ T, (T = 36 ∨ T = 41 ∨ T = 46 ∨ T = 51 ∨ T = 56) ∧ ab_sw 7 (.tableswitch 49 0 3 #[29, 34, 39, 44]) [.int w] = some (T, []) := by
  by_cases h : w.toInt < 0 ∨ 3 < w.toInt
  · exact ⟨56, by omega, by simp only [ab_sw]; rw [if_pos h]; rfl⟩
  · rcases (show w.toInt = 0 ∨ w.toInt = 1 ∨ w.toInt = 2 ∨ w.toInt = 3 from by omega) with z | z | z | z
    · exact ⟨36, by omega, by simp only [ab_sw]; rw [if_neg h, z]; rfl⟩
    · exact ⟨41, by omega, by simp only [ab_sw]; rw [if_neg h, z]; rfl⟩
    · exact ⟨46, by omega, by simp only [ab_sw]; rw [if_neg h, z]; rfl⟩
    · exact ⟨51, by omega, by simp only [ab_sw]; rw [if_neg h, z]; rfl⟩
theorem c_nodeQ {c w : Int32} (hS : c_S h q0 qt qb ql th ta qa qe gb len cap sz kh bh eh ka ba ea) (r1 : h.length + 1 ≤ e.2.2.2.1) (r2 : ab_sz h + 6 ≤ e.2.2.2.2.1) : xT e (d + 4) 98 0 [(0, .ref q0), (1, .int c), (2, .int w)] [] h (x_Q (fun v h' => (∃ z : Int32, v = some (.int z)) ∧ h' = h) (fun ce xq h' => c_TH h 6 ce xq h')) := by
  have hM : (x_mt e.1)[98]? = some xM98 := rfl
  obtain ⟨⟨F0, hq, lq, p0, p1, ⟨zp, p2⟩⟩, ⟨Ft, gl, kp, hT⟩, hH, hA, hht, ⟨Fa, ef, hL⟩, hY⟩ := id hS
  obtain ⟨ht, lt, t0, t1, t2, t3, t4, t5, hb8, hl8, k4, l4, hne⟩ := id hT
  obtain ⟨Fh, u0, u1, u2, u3, u5, ⟨x3, u6⟩, ⟨x4, u7⟩, ⟨x5, u8⟩⟩ := id hH
  obtain ⟨Fx, w0, w1, w2, w3, w5, ⟨y3, w6⟩, ⟨y4, w7⟩, ⟨y5, w8⟩⟩ := id hA
  have ha := hL.1
  refine xT.s1 hM rfl rfl ?_
  refine xT.s1 hM rfl rfl ?_
  refine xT.ca hM rfl rfl rfl rfl rfl rfl (xc_virt rfl rfl rfl hq ⟨rfl, Nat.le_of_ble_eq_true rfl, rfl, Or.inl rfl⟩) rfl ⟨Nat.le_of_ble_eq_true rfl, Nat.le_of_ble_eq_true rfl, by decide⟩ rfl (c_nodeAt hS r1 r2) (fun v h2 hv => ?_) (fun ce xq h3 he => he)
  obtain ⟨jN, hjN, rfl, bbN, GbN, rfl, hbN, hh2⟩ := hv
  subst h2
  have ntN := hY _ _ hbN
  obtain ⟨lnN, ⟨z0N, g0N⟩, ⟨z1N, g1N⟩, ⟨z2N, g2N⟩, ⟨z3N, g3N⟩, ⟨z4N, g4N⟩, ⟨z5N, g5N⟩, -⟩ := id ntN
  refine xT.s1 hM rfl rfl ?_
  refine xT.s1 hM rfl rfl ?_
  obtain ⟨T, hT5, hsw⟩ := c_sw4 w
  refine xT.sw hM rfl rfl rfl rfl hsw ?_
  rcases hT5 with rfl | rfl | rfl | rfl | rfl
  · refine xT.s1 hM rfl rfl ?_
    refine xT.s2 hM rfl rfl (x2_get rfl (Or.inl rfl) hbN g0N) ?_
    exact xT.ret hM rfl rfl rfl rfl (⟨⟨_, rfl⟩, rfl⟩)
  · refine xT.s1 hM rfl rfl ?_
    refine xT.s2 hM rfl rfl (x2_get rfl (Or.inl rfl) hbN g1N) ?_
    exact xT.ret hM rfl rfl rfl rfl (⟨⟨_, rfl⟩, rfl⟩)
  · refine xT.s1 hM rfl rfl ?_
    refine xT.s2 hM rfl rfl (x2_get rfl (Or.inl rfl) hbN g5N) ?_
    exact xT.ret hM rfl rfl rfl rfl (⟨⟨_, rfl⟩, rfl⟩)
  · refine xT.s1 hM rfl rfl ?_
    refine xT.go hM rfl rfl rfl rfl rfl rfl (xc_virt rfl rfl rfl hbN ⟨rfl, Nat.le_of_ble_eq_true rfl, rfl, Or.inl rfl⟩) rfl ⟨Nat.le_of_ble_eq_true rfl, Nat.le_of_ble_eq_true rfl, by decide⟩ (c_units hbN ntN) (fun v h2 hv => ?_)
    obtain ⟨⟨y, rfl⟩, hh2⟩ := hv
    subst h2
    exact xT.ret hM rfl rfl rfl rfl (⟨⟨_, rfl⟩, rfl⟩)
  · exact xT.th hM rfl rfl rfl rfl rfl rfl rfl rfl rfl ⟨r1, r2⟩ ⟨rfl, rfl, rfl⟩
theorem x_cnt1 {i z : Int32} {m : Nat} (h : i < z) (h1 : (z.toInt - i.toInt).toNat < m + 1) (h2 : 0 ≤ i.toInt) : (z.toInt - (i + Int32.ofInt 1).toInt).toNat < m ∧ 0 ≤ (i + Int32.ofInt 1).toInt := by
  have hlt := Int32.lt_iff_toInt_lt.mp h
  have hz := Int32.toInt_lt z
  have e1 : (i + Int32.ofInt 1).toInt = i.toInt + 1 := by
    rw [Int32.toInt_add, show (Int32.ofInt 1).toInt = 1 from by decide]
    exact Int.bmod_eq_of_le (by omega) (by omega)
  rw [e1]
  omega
theorem c_smLoop {bbN bbP : Nat} {GbN GbP : List Value} {z2N z3N z2P z3P c w : Int32} (hS : c_S h q0 qt qb ql th ta qa qe gb len cap sz kh bh eh ka ba ea) (hbN : h[bbN]? = some (.inr (10, GbN))) (lnN : GbN.length = 7) (g2N : GbN[2]? = some (.int z2N)) (g3N : GbN[3]? = some (.int z3N)) (hbP : h[bbP]? = some (.inr (10, GbP))) (lnP : GbP.length = 7) (g2P : GbP[2]? = some (.int z2P)) (g3P : GbP[3]? = some (.int z3P)) : ∀ (m : Nat) (i al : Int32), (z3N.toInt - i.toInt).toNat < m → 0 ≤ i.toInt → (al = 0 ∨ al = 1) → xT e (d + 1) 102 60 [(6, .int i), (5, .int al), (4, .ref bbP), (3, .ref bbN), (0, .ref q0), (1, .int c), (2, .int w)] [] h (x_Q (fun v h' => (∃ z : Int32, v = some (.int z)) ∧ h' = h) (fun ce xq h' => c_TH h 6 ce xq h' ∨ c_TH h 7 ce xq h')) := by
  have hM : (x_mt e.1)[102]? = some xM102 := rfl
  obtain ⟨⟨F0, hq, lq, p0, p1, ⟨zp, p2⟩⟩, ⟨Ft, gl, kp, hT⟩, hH, hA, hht, ⟨Fa, ef, hL⟩, hY⟩ := id hS
  obtain ⟨ht, lt, t0, t1, t2, t3, t4, t5, hb8, hl8, k4, l4, hne⟩ := id hT
  obtain ⟨Fh, u0, u1, u2, u3, u5, ⟨x3, u6⟩, ⟨x4, u7⟩, ⟨x5, u8⟩⟩ := id hH
  obtain ⟨Fx, w0, w1, w2, w3, w5, ⟨y3, w6⟩, ⟨y4, w7⟩, ⟨y5, w8⟩⟩ := id hA
  have ha := hL.1
  intro m
  induction m with
  | zero => intro i al m1; omega
  | succ m ih =>
    intro i al m1 m2 hal
    refine xT.s1 hM rfl rfl ?_
    refine xT.s1 hM rfl rfl ?_
    refine xT.s2 hM rfl rfl (x2_get rfl (Or.inl rfl) hbN g3N) ?_
    refine xT.s1 hM rfl rfl ?_
    refine xT.br (fun b0 => ?_) (fun b0 => ?_)
    · refine xT.s1 hM rfl rfl ?_
      exact xT.ret (v := some (.int al)) hM rfl rfl rfl (by rcases hal with z | z <;> rw [z] <;> rfl) ⟨⟨_, rfl⟩, rfl⟩
    · have hlt : i < z3N := Int32.not_le.mp b0
      refine xT.s1 hM rfl rfl ?_
      refine xT.s1 hM rfl rfl ?_
      refine xT.br (fun b1 => ?_) (fun b1 => ?_)
      · refine xT.s1 hM rfl rfl ?_
        exact xT.ret (v := some (.int al)) hM rfl rfl rfl (by rcases hal with z | z <;> rw [z] <;> rfl) ⟨⟨_, rfl⟩, rfl⟩
      · refine xT.s1 hM rfl rfl ?_
        refine xT.s2 hM rfl rfl (x2_get rfl (Or.inl rfl) hq p0) ?_
        refine xT.s1 hM rfl rfl ?_
        refine xT.s2 hM rfl rfl (x2_get rfl (Or.inl rfl) hbN g2N) ?_
        refine xT.s1 hM rfl rfl ?_
        refine xT.s1 hM rfl rfl ?_
        refine xT.go hM rfl rfl rfl rfl rfl rfl (xc_virt rfl rfl rfl ht ⟨rfl, Nat.le_of_ble_eq_true rfl, rfl, Or.inl rfl⟩) rfl ⟨Nat.le_of_ble_eq_true rfl, Nat.le_of_ble_eq_true rfl, by decide⟩ (c_letter hT) (fun v h2 hv => ?_)
        obtain ⟨⟨y1x, rfl⟩, hh2⟩ := hv
        subst h2
        refine xT.s1 hM rfl rfl ?_
        refine xT.s2 hM rfl rfl (x2_get rfl (Or.inl rfl) hq p0) ?_
        refine xT.s1 hM rfl rfl ?_
        refine xT.s2 hM rfl rfl (x2_get rfl (Or.inl rfl) hbP g2P) ?_
        refine xT.s1 hM rfl rfl ?_
        refine xT.s1 hM rfl rfl ?_
        refine xT.go hM rfl rfl rfl rfl rfl rfl (xc_virt rfl rfl rfl ht ⟨rfl, Nat.le_of_ble_eq_true rfl, rfl, Or.inl rfl⟩) rfl ⟨Nat.le_of_ble_eq_true rfl, Nat.le_of_ble_eq_true rfl, by decide⟩ (c_letter hT) (fun v h2 hv => ?_)
        obtain ⟨⟨y2x, rfl⟩, hh2⟩ := hv
        subst h2
        refine xT.s1 hM rfl rfl ?_
        refine xT.br (fun b2 => ?_) (fun b2 => ?_)
        · refine xT.s1 hM rfl rfl ?_
          refine xT.s1 hM rfl rfl ?_
          refine xT.s1 hM rfl rfl ?_
          refine xT.s1 hM rfl rfl ?_
          refine xT.s1 hM rfl rfl ?_
          exact xT.weak (L' := [(6, _), (5, _), (4, _), (3, _), (0, _), (1, _), (2, _)]) ⟨by simp, by simp⟩ (ih (i + Int32.ofInt 1) (Int32.ofInt 1) (x_cnt1 hlt m1 m2).1 (x_cnt1 hlt m1 m2).2 (Or.inr (by decide)))
        · refine xT.s1 hM rfl rfl ?_
          refine xT.s1 hM rfl rfl ?_
          refine xT.s1 hM rfl rfl ?_
          refine xT.s1 hM rfl rfl ?_
          exact xT.weak (L' := [(6, _), (5, _), (4, _), (3, _), (0, _), (1, _), (2, _)]) ⟨by simp, by simp⟩ (ih (i + Int32.ofInt 1) (Int32.ofInt 0) (x_cnt1 hlt m1 m2).1 (x_cnt1 hlt m1 m2).2 (Or.inl (by decide)))
theorem c_same {c w : Int32} (hS : c_S h q0 qt qb ql th ta qa qe gb len cap sz kh bh eh ka ba ea) (r1 : h.length + 1 ≤ e.2.2.2.1) (r2 : ab_sz h + 6 ≤ e.2.2.2.2.1) : xT e (d + 4) 102 0 [(0, .ref q0), (1, .int c), (2, .int w)] [] h (x_Q (fun v h' => (∃ z : Int32, v = some (.int z)) ∧ h' = h) (fun ce xq h' => c_TH h 6 ce xq h' ∨ c_TH h 7 ce xq h')) := by
  have hM : (x_mt e.1)[102]? = some xM102 := rfl
  obtain ⟨⟨F0, hq, lq, p0, p1, ⟨zp, p2⟩⟩, ⟨Ft, gl, kp, hT⟩, hH, hA, hht, ⟨Fa, ef, hL⟩, hY⟩ := id hS
  obtain ⟨ht, lt, t0, t1, t2, t3, t4, t5, hb8, hl8, k4, l4, hne⟩ := id hT
  obtain ⟨Fh, u0, u1, u2, u3, u5, ⟨x3, u6⟩, ⟨x4, u7⟩, ⟨x5, u8⟩⟩ := id hH
  obtain ⟨Fx, w0, w1, w2, w3, w5, ⟨y3, w6⟩, ⟨y4, w7⟩, ⟨y5, w8⟩⟩ := id hA
  have ha := hL.1
  refine xT.s1 hM rfl rfl ?_
  refine xT.s1 hM rfl rfl ?_
  refine xT.ca hM rfl rfl rfl rfl rfl rfl (xc_virt rfl rfl rfl hq ⟨rfl, Nat.le_of_ble_eq_true rfl, rfl, Or.inl rfl⟩) rfl ⟨Nat.le_of_ble_eq_true rfl, Nat.le_of_ble_eq_true rfl, by decide⟩ rfl (c_nodeAt hS r1 r2) (fun v h2 hv => ?_) (fun ce xq h3 he => Or.inl he)
  obtain ⟨jN, hjN, rfl, bbN, GbN, rfl, hbN, hh2⟩ := hv
  subst h2
  have ntN := hY _ _ hbN
  obtain ⟨lnN, ⟨z0N, g0N⟩, ⟨z1N, g1N⟩, ⟨z2N, g2N⟩, ⟨z3N, g3N⟩, ⟨z4N, g4N⟩, ⟨z5N, g5N⟩, -⟩ := id ntN
  refine xT.s1 hM rfl rfl ?_
  refine xT.s1 hM rfl rfl ?_
  refine xT.s1 hM rfl rfl ?_
  refine xT.ca hM rfl rfl rfl rfl rfl rfl (xc_virt rfl rfl rfl hq ⟨rfl, Nat.le_of_ble_eq_true rfl, rfl, Or.inl rfl⟩) rfl ⟨Nat.le_of_ble_eq_true rfl, Nat.le_of_ble_eq_true rfl, by decide⟩ rfl (c_nodeAt hS r1 r2) (fun v h2 hv => ?_) (fun ce xq h3 he => Or.inl he)
  obtain ⟨jP, hjP, rfl, bbP, GbP, rfl, hbP, hh2⟩ := hv
  subst h2
  have ntP := hY _ _ hbP
  obtain ⟨lnP, ⟨z0P, g0P⟩, ⟨z1P, g1P⟩, ⟨z2P, g2P⟩, ⟨z3P, g3P⟩, ⟨z4P, g4P⟩, ⟨z5P, g5P⟩, -⟩ := id ntP
  refine xT.s1 hM rfl rfl ?_
  refine xT.s1 hM rfl rfl ?_
  refine xT.go hM rfl rfl rfl rfl rfl rfl (xc_virt rfl rfl rfl hbN ⟨rfl, Nat.le_of_ble_eq_true rfl, rfl, Or.inl rfl⟩) rfl ⟨Nat.le_of_ble_eq_true rfl, Nat.le_of_ble_eq_true rfl, by decide⟩ (c_hasId hbN ntN) (fun v h2 hv => ?_)
  obtain ⟨⟨y1x, rfl⟩, hh2⟩ := hv
  subst h2
  refine xT.s1 hM rfl rfl ?_
  refine xT.br (fun b1 => ?_) (fun b1 => ?_)
  · exact xT.th hM rfl rfl rfl rfl rfl rfl rfl rfl rfl ⟨r1, r2⟩ (Or.inr ⟨rfl, rfl, rfl⟩)
  · refine xT.s1 hM rfl rfl ?_
    refine xT.go hM rfl rfl rfl rfl rfl rfl (xc_virt rfl rfl rfl hbP ⟨rfl, Nat.le_of_ble_eq_true rfl, rfl, Or.inl rfl⟩) rfl ⟨Nat.le_of_ble_eq_true rfl, Nat.le_of_ble_eq_true rfl, by decide⟩ (c_hasId hbP ntP) (fun v h2 hv => ?_)
    obtain ⟨⟨y2x, rfl⟩, hh2⟩ := hv
    subst h2
    refine xT.s1 hM rfl rfl ?_
    refine xT.br (fun b2 => ?_) (fun b2 => ?_)
    · exact xT.th hM rfl rfl rfl rfl rfl rfl rfl rfl rfl ⟨r1, r2⟩ (Or.inr ⟨rfl, rfl, rfl⟩)
    · refine xT.s1 hM rfl rfl ?_
      refine xT.s2 hM rfl rfl (x2_get rfl (Or.inl rfl) hbN g3N) ?_
      refine xT.s1 hM rfl rfl ?_
      refine xT.s2 hM rfl rfl (x2_get rfl (Or.inl rfl) hbP g3P) ?_
      refine xT.s1 hM rfl rfl ?_
      refine xT.br (fun b3 => ?_) (fun b3 => ?_)
      · refine xT.s1 hM rfl rfl ?_
        refine xT.s1 hM rfl rfl ?_
        refine xT.s1 hM rfl rfl ?_
        refine xT.s1 hM rfl rfl ?_
        refine xT.s1 hM rfl rfl ?_
        exact c_smLoop (d := d + 3) hS hbN lnN g2N g3N hbP lnP g2P g3P ((z3N.toInt - (Int32.ofInt 0).toInt).toNat + 1) _ _ (by omega) (by decide) (Or.inr (by decide))
      · refine xT.s1 hM rfl rfl ?_
        refine xT.s1 hM rfl rfl ?_
        refine xT.s1 hM rfl rfl ?_
        refine xT.s1 hM rfl rfl ?_
        exact c_smLoop (d := d + 3) hS hbN lnN g2N g3N hbP lnP g2P g3P ((z3N.toInt - (Int32.ofInt 0).toInt).toNat + 1) _ _ (by omega) (by decide) (Or.inl (by decide))
end XCQ
