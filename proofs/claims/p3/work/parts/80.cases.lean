/-! the law: its ten cases -/
section XLC
variable {e : xE} {d q0 qt qb ql qa qo q q8 len tp cap nn capm k : Nat} {gb gm gm2 : Nat → Int32} {h h' : ab_H} {y : Int64} {F F2 : List Value} {R R2 : Nat → Nat} {A A2 : m_AT} {Q : ab_O → ab_H → Prop}
theorem l_c0 (I : l_I e h q0 qt qb ql qa qo q q8 k len) (hk6 : 6 * k + 6 ≤ e.2.1) (hE : e.1 = .null ∨ ∃ w, e.1 = .float w) (hNC : e.2.2.2.1 = 601024) (hNS : e.2.2.2.2.1 = 7293034) (hL : e.2.1 ≤ 3072) (next : ∀ (h' : ab_H) (len2 : Nat), l_I e h' q0 qt qb ql qa qo q q8 (k + 1) len2 → xT e (d + 300) 0 473 [(4, .int (nI (6 * k))), (3, .ref qo), (2, .ref q), (1, .ref q0), (0, .float 0)] [] h' Q) : xT e (d + 300) 0 96 [(4, .int (nI (6 * k))), (3, .ref qo), (2, .ref q), (1, .ref q0), (0, .float 0)] [] h Q := by
  have hM : (x_mt e.1)[0]? = some xM0 := rfl
  obtain ⟨gb, gm, cap, capm, nn, y, F, R, A, hW, hG, ⟨s1, s2, s3, s4⟩, c1, c2⟩ := I
  have hcap := hW.2.1
  have hcm : capm ≤ 16384 := hG.2.2.2.2.2.2.2.1
  have htp := hG.tpl
  have r1 : h.length + 1 ≤ e.2.2.2.1 := by omega
  have r2 : ab_sz h + 6 ≤ e.2.2.2.2.1 := by omega
  refine xT.s1 hM rfl rfl ?_
  refine xT.s1 hM rfl rfl ?_
  refine xT.s1 hM rfl rfl ?_
  refine xT.s1 hM rfl rfl ?_
  refine xT.s1 hM rfl rfl ?_
  refine xT.sld (j := 6 * k + 1) hM rfl (nI_add (6 * k) 1) (by omega) (by omega) ?_
  refine xT.s1 hM rfl rfl ?_
  refine xT.s1 hM rfl rfl ?_
  refine xT.s1 hM rfl rfl ?_
  refine xT.s1 hM rfl rfl ?_
  refine xT.sld (j := 6 * k + 2) hM rfl (nI_add (6 * k) 2) (by omega) (by omega) ?_
  refine xT.s1 hM rfl rfl ?_
  refine xT.s1 hM rfl rfl ?_
  refine xT.s1 hM rfl rfl ?_
  refine xT.s1 hM rfl rfl ?_
  refine xT.sld (j := 6 * k + 3) hM rfl (nI_add (6 * k) 3) (by omega) (by omega) ?_
  refine xT.s1 hM rfl rfl ?_
  refine xT.s1 hM rfl rfl ?_
  refine xT.s1 hM rfl rfl ?_
  refine xT.s1 hM rfl rfl ?_
  refine xT.sld (j := 6 * k + 4) hM rfl (nI_add (6 * k) 4) (by omega) (by omega) ?_
  refine xT.s1 hM rfl rfl ?_
  refine xT.s1 hM rfl rfl ?_
  refine xT.s1 hM rfl rfl ?_
  refine xT.s1 hM rfl rfl ?_
  refine xT.sld (j := 6 * k + 5) hM rfl (nI_add (6 * k) 5) (by omega) (by omega) ?_
  refine xT.s1 hM rfl rfl ?_
  refine xT.go hM rfl rfl rfl rfl rfl rfl (xc_stat rfl rfl ⟨rfl, Nat.le_of_ble_eq_true rfl⟩) rfl ⟨Nat.le_of_ble_eq_true rfl, Nat.le_of_ble_eq_true rfl, by decide⟩ (w_feed hW r1 r2) (fun v2 h2 hv2 => ?_)
  obtain ⟨k5, y2, len2, rfl, ⟨gb2, cap2, hW2, fr2, hl2, hc2, n2, z2⟩, hcs⟩ := hv2
  have hG2 := l_mk hW hG s1 s2 s3 s4 fr2 hl2
  refine xT.s1 hM rfl rfl ?_
  refine xT.s1 hM rfl rfl ?_
  refine xT.s1 hM rfl rfl ?_
  refine xT.s1 hM rfl rfl ?_
  refine xT.s1 hM rfl rfl ?_
  refine xT.s1 hM rfl rfl ?_
  refine xT.sld (j := 6 * k + 1) hM rfl (nI_add (6 * k) 1) (by omega) (by omega) ?_
  refine xT.s1 hM rfl rfl ?_
  refine xT.s1 hM rfl rfl ?_
  refine xT.s1 hM rfl rfl ?_
  refine xT.s1 hM rfl rfl ?_
  refine xT.sld (j := 6 * k + 2) hM rfl (nI_add (6 * k) 2) (by omega) (by omega) ?_
  refine xT.s1 hM rfl rfl ?_
  refine xT.s1 hM rfl rfl ?_
  refine xT.s1 hM rfl rfl ?_
  refine xT.s1 hM rfl rfl ?_
  refine xT.sld (j := 6 * k + 3) hM rfl (nI_add (6 * k) 3) (by omega) (by omega) ?_
  refine xT.s1 hM rfl rfl ?_
  refine xT.s1 hM rfl rfl ?_
  refine xT.s1 hM rfl rfl ?_
  refine xT.s1 hM rfl rfl ?_
  refine xT.sld (j := 6 * k + 4) hM rfl (nI_add (6 * k) 4) (by omega) (by omega) ?_
  refine xT.s1 hM rfl rfl ?_
  refine xT.s1 hM rfl rfl ?_
  refine xT.s1 hM rfl rfl ?_
  refine xT.s1 hM rfl rfl ?_
  refine xT.sld (j := 6 * k + 5) hM rfl (nI_add (6 * k) 5) (by omega) (by omega) ?_
  refine xT.go hM rfl rfl rfl rfl rfl rfl (xc_virt rfl rfl rfl hG2.cell ⟨rfl, Nat.le_of_ble_eq_true rfl, rfl, Or.inl rfl⟩) rfl ⟨Nat.le_of_ble_eq_true rfl, Nat.le_of_ble_eq_true rfl, by decide⟩ (m_feed hG2) (fun v3 h3 hv3 => ?_)
  obtain ⟨F3, gm3, tp2, hG3, u3, l3, t3, hms⟩ := hv3
  have hW3 := l_wk2 hW2 hG2 s3 s4 hG3 u3
  have hl2 := (l_rows hW3).2.2.2.2
  have ht2 := hG3.tpl
  obtain ⟨-, -, fo, ho, ho1⟩ := id hW3
  rcases hms with ⟨m1, m2, m3, rfl⟩ | ⟨m1, m2, m3, rfl⟩
  all_goals rcases hcs with ⟨a1, rfl, a3⟩ | ⟨a1, rfl, a3, a4⟩
  all_goals first | (exfalso; omega) | skip
  · have hlen : tp2 = len2 := by omega
    subst hlen
    refine xT.s1 hM rfl rfl ?_
    refine xT.s1 hM rfl rfl ?_
    exact xT.weak (L' := [(6, _), (5, _), (4, _), (3, _), (2, _), (1, _), (0, _)]) ⟨by simp, by simp⟩ (next _ _ (⟨gb2, gm3, cap2, capm, nn, y2, F3, R, A, hW3, hG3, ⟨s1, s2, s3, s4⟩, by omega, by omega⟩))
  · have hlen : tp2 = len2 := by omega
    subst hlen
    refine xT.s1 hM rfl rfl ?_
    refine xT.s1 hM rfl rfl ?_
    exact xT.weak (L' := [(6, _), (5, _), (4, _), (3, _), (2, _), (1, _), (0, _)]) ⟨by simp, by simp⟩ (next _ _ (⟨gb2, gm3, cap2, capm, nn, y2, F3, R, A, hW3, hG3, ⟨s1, s2, s3, s4⟩, by omega, by omega⟩))
theorem l_c1 (I : l_I e h q0 qt qb ql qa qo q q8 k len) (hk6 : 6 * k + 6 ≤ e.2.1) (hE : e.1 = .null ∨ ∃ w, e.1 = .float w) (hNC : e.2.2.2.1 = 601024) (hNS : e.2.2.2.2.1 = 7293034) (hL : e.2.1 ≤ 3072) (next : ∀ (h' : ab_H) (len2 : Nat), l_I e h' q0 qt qb ql qa qo q q8 (k + 1) len2 → xT e (d + 300) 0 473 [(4, .int (nI (6 * k))), (3, .ref qo), (2, .ref q), (1, .ref q0), (0, .float 0)] [] h' Q) : xT e (d + 300) 0 172 [(4, .int (nI (6 * k))), (3, .ref qo), (2, .ref q), (1, .ref q0), (0, .float 0)] [] h Q := by
  have hM : (x_mt e.1)[0]? = some xM0 := rfl
  obtain ⟨gb, gm, cap, capm, nn, y, F, R, A, hW, hG, ⟨s1, s2, s3, s4⟩, c1, c2⟩ := I
  have hcap := hW.2.1
  have hcm : capm ≤ 16384 := hG.2.2.2.2.2.2.2.1
  have htp := hG.tpl
  have r1 : h.length + 1 ≤ e.2.2.2.1 := by omega
  have r2 : ab_sz h + 6 ≤ e.2.2.2.2.1 := by omega
  refine xT.s1 hM rfl rfl ?_
  refine xT.s1 hM rfl rfl ?_
  refine xT.s1 hM rfl rfl ?_
  refine xT.s1 hM rfl rfl ?_
  refine xT.s1 hM rfl rfl ?_
  refine xT.sld (j := 6 * k + 1) hM rfl (nI_add (6 * k) 1) (by omega) (by omega) ?_
  refine xT.s1 hM rfl rfl ?_
  refine xT.go hM rfl rfl rfl rfl rfl rfl (xc_stat rfl rfl ⟨rfl, Nat.le_of_ble_eq_true rfl⟩) rfl ⟨Nat.le_of_ble_eq_true rfl, Nat.le_of_ble_eq_true rfl, by decide⟩ (w_end hW r1 r2) (fun v2 h2 hv2 => ?_)
  obtain ⟨k5, y2, len2, rfl, ⟨gb2, cap2, hW2, fr2, hl2, hc2, n2, z2⟩, hcs⟩ := hv2
  have hG2 := l_mk hW hG s1 s2 s3 s4 fr2 hl2
  refine xT.s1 hM rfl rfl ?_
  refine xT.s1 hM rfl rfl ?_
  refine xT.s1 hM rfl rfl ?_
  refine xT.s1 hM rfl rfl ?_
  refine xT.s1 hM rfl rfl ?_
  refine xT.s1 hM rfl rfl ?_
  refine xT.sld (j := 6 * k + 1) hM rfl (nI_add (6 * k) 1) (by omega) (by omega) ?_
  refine xT.go hM rfl rfl rfl rfl rfl rfl (xc_virt rfl rfl rfl hG2.cell ⟨rfl, Nat.le_of_ble_eq_true rfl, rfl, Or.inl rfl⟩) rfl ⟨Nat.le_of_ble_eq_true rfl, Nat.le_of_ble_eq_true rfl, by decide⟩ (m_end2 hG2) (fun v3 h3 hv3 => ?_)
  obtain ⟨F3, tp2, hG3, u3, l3, t3, hms⟩ := hv3
  have hW3 := l_wk2 hW2 hG2 s3 s4 hG3 (fun k a _ => u3 k a)
  have hl2 := (l_rows hW3).2.2.2.2
  have ht2 := hG3.tpl
  obtain ⟨-, -, fo, ho, ho1⟩ := id hW3
  rcases hms with ⟨m1, m2, m3, rfl⟩ | ⟨m0, m1, m2, m3, rfl⟩
  · rcases hcs with ⟨a1, rfl, a3⟩ | ⟨a0, a1, rfl, a3, a4⟩
    · have hlen : tp2 = len2 := by omega
      subst hlen
      refine xT.s1 hM rfl rfl ?_
      refine xT.s1 hM rfl rfl ?_
      refine xT.go hM rfl rfl rfl rfl rfl rfl (xc_virt rfl rfl rfl hG3.cell ⟨rfl, Nat.le_of_ble_eq_true rfl, rfl, Or.inl rfl⟩) rfl ⟨Nat.le_of_ble_eq_true rfl, Nat.le_of_ble_eq_true rfl, by decide⟩ (m_thrown hG3.cell m3) (fun v4 h4 hv4 => ?_)
      obtain ⟨rfl, hh4⟩ := hv4
      subst h4
      refine xT.s1 hM rfl rfl ?_
      refine xT.s1 hM rfl rfl ?_
      refine xT.brT (rfl) ?_
      refine xT.s1 hM rfl rfl ?_
      refine xT.s1 hM rfl rfl ?_
      refine xT.brF (by decide) ?_
      refine xT.s1 hM rfl rfl ?_
      exact xT.weak (L' := [(6, _), (5, _), (4, _), (3, _), (2, _), (1, _), (0, _)]) ⟨by simp, by simp⟩ (next _ _ (⟨gb2, gm, cap2, capm, nn, y2, F3, R, A, hW3, hG3, ⟨s1, s2, s3, s4⟩, by omega, by omega⟩))
    · exact absurd m1 (fun z => z.elim a0 a1)
  · rcases hcs with ⟨a1, rfl, a3⟩ | ⟨a0, a1, rfl, a3, a4⟩
    · exact absurd a1 (fun z => z.elim m0 m1)
    · have hlen : tp2 = len2 := (nI_eq (by omega) (by omega)).mp (m2.symm.trans a3)
      have hle : len2 ≤ len := by rw [a3] at m1; exact Nat.not_lt.mp (fun z => m1 (nI_lt z (by omega)))
      subst hlen
      refine xT.s1 hM rfl rfl ?_
      refine xT.s1 hM rfl rfl ?_
      refine xT.go hM rfl rfl rfl rfl rfl rfl (xc_virt rfl rfl rfl hG3.cell ⟨rfl, Nat.le_of_ble_eq_true rfl, rfl, Or.inl rfl⟩) rfl ⟨Nat.le_of_ble_eq_true rfl, Nat.le_of_ble_eq_true rfl, by decide⟩ (m_thrown hG3.cell m3) (fun v4 h4 hv4 => ?_)
      obtain ⟨rfl, hh4⟩ := hv4
      subst h4
      refine xT.s1 hM rfl rfl ?_
      refine xT.s1 hM rfl rfl ?_
      refine xT.brT (rfl) ?_
      refine xT.s1 hM rfl rfl ?_
      refine xT.s1 hM rfl rfl ?_
      refine xT.brT (rfl) ?_
      refine xT.s1 hM rfl rfl ?_
      refine xT.s1 hM rfl rfl ?_
      refine xT.lald (k := 0) hM rfl ho (by omega) (by omega) ?_
      rw [ho1]
      refine xT.s1 hM rfl rfl ?_
      refine xT.s1 hM rfl rfl ?_
      refine xT.s1 hM rfl rfl ?_
      refine xT.s1 hM rfl rfl ?_
      refine xT.brT ((lg_cmp_eq _ _).mpr a4) ?_
      refine xT.s1 hM rfl rfl ?_
      exact xT.weak (L' := [(6, _), (5, _), (4, _), (3, _), (2, _), (1, _), (0, _)]) ⟨by simp, by simp⟩ (next _ _ (⟨gb2, gm, cap2, capm, nn, y2, F3, R, A, hW3, hG3, ⟨s1, s2, s3, s4⟩, by omega, by omega⟩))
theorem l_c2 (I : l_I e h q0 qt qb ql qa qo q q8 k len) (hk6 : 6 * k + 6 ≤ e.2.1) (hE : e.1 = .null ∨ ∃ w, e.1 = .float w) (hNC : e.2.2.2.1 = 601024) (hNS : e.2.2.2.2.1 = 7293034) (hL : e.2.1 ≤ 3072) (next : ∀ (h' : ab_H) (len2 : Nat), l_I e h' q0 qt qb ql qa qo q q8 (k + 1) len2 → xT e (d + 300) 0 473 [(4, .int (nI (6 * k))), (3, .ref qo), (2, .ref q), (1, .ref q0), (0, .float 0)] [] h' Q) : xT e (d + 300) 0 228 [(4, .int (nI (6 * k))), (3, .ref qo), (2, .ref q), (1, .ref q0), (0, .float 0)] [] h Q := by
  have hM : (x_mt e.1)[0]? = some xM0 := rfl
  obtain ⟨gb, gm, cap, capm, nn, y, F, R, A, hW, hG, ⟨s1, s2, s3, s4⟩, c1, c2⟩ := I
  have hcap := hW.2.1
  have hcm : capm ≤ 16384 := hG.2.2.2.2.2.2.2.1
  have htp := hG.tpl
  have r1 : h.length + 1 ≤ e.2.2.2.1 := by omega
  have r2 : ab_sz h + 6 ≤ e.2.2.2.2.1 := by omega
  refine xT.s1 hM rfl rfl ?_
  refine xT.s1 hM rfl rfl ?_
  refine xT.go hM rfl rfl rfl rfl rfl rfl (xc_stat rfl rfl ⟨rfl, Nat.le_of_ble_eq_true rfl⟩) rfl ⟨Nat.le_of_ble_eq_true rfl, Nat.le_of_ble_eq_true rfl, by decide⟩ (w_read hE hW (by omega) (by omega)) (fun v2 h2 hv2 => ?_)
  obtain ⟨k5, y2, rfl, gb2, cap2, hW2, fr2, hl2, hc2, n2, z2⟩ := hv2
  have hG2 := l_mk hW hG s1 s2 s3 s4 fr2 hl2
  refine xT.s1 hM rfl rfl ?_
  refine xT.s1 hM rfl rfl ?_
  refine xT.go hM rfl rfl rfl rfl rfl rfl (xc_virt rfl rfl rfl hG2.cell ⟨rfl, Nat.le_of_ble_eq_true rfl, rfl, Or.inl rfl⟩) rfl ⟨Nat.le_of_ble_eq_true rfl, Nat.le_of_ble_eq_true rfl, by decide⟩ (m_read10 hE hG2 (by have := hW2.2.1; omega) (by have := hW2.2.1; omega)) (fun v3 h3 hv3 => ?_)
  obtain ⟨⟨z3, rfl⟩, ⟨F3, nn3, cap3, R3, A3, hG3, st3, l3, cc3, n3, t3⟩, n10⟩ := hv3
  have hW3 := l_wk7 hW2 hG2 s3 s4 st3 n10
  refine xT.s1 hM rfl rfl ?_
  refine xT.s1 hM rfl rfl ?_
  exact xT.weak (L' := [(6, _), (5, _), (4, _), (3, _), (2, _), (1, _), (0, _)]) ⟨by simp, by simp⟩ (next _ _ (⟨gb2, gm, cap2, cap3, nn3, y2, F3, R3, A3, hW3, hG3, ⟨s1, s2, s3, s4⟩, by omega, by omega⟩))
theorem l_c3 (I : l_I e h q0 qt qb ql qa qo q q8 k len) (hk6 : 6 * k + 6 ≤ e.2.1) (hE : e.1 = .null ∨ ∃ w, e.1 = .float w) (hNC : e.2.2.2.1 = 601024) (hNS : e.2.2.2.2.1 = 7293034) (hL : e.2.1 ≤ 3072) (next : ∀ (h' : ab_H) (len2 : Nat), l_I e h' q0 qt qb ql qa qo q q8 (k + 1) len2 → xT e (d + 300) 0 473 [(4, .int (nI (6 * k))), (3, .ref qo), (2, .ref q), (1, .ref q0), (0, .float 0)] [] h' Q) : xT e (d + 300) 0 244 [(4, .int (nI (6 * k))), (3, .ref qo), (2, .ref q), (1, .ref q0), (0, .float 0)] [] h Q := by
  have hM : (x_mt e.1)[0]? = some xM0 := rfl
  obtain ⟨gb, gm, cap, capm, nn, y, F, R, A, hW, hG, ⟨s1, s2, s3, s4⟩, c1, c2⟩ := I
  have hcap := hW.2.1
  have hcm : capm ≤ 16384 := hG.2.2.2.2.2.2.2.1
  have htp := hG.tpl
  have r1 : h.length + 1 ≤ e.2.2.2.1 := by omega
  have r2 : ab_sz h + 6 ≤ e.2.2.2.2.1 := by omega
  refine xT.s1 hM rfl rfl ?_
  obtain ⟨⟨th, ta, qe, sz, kh, bh, eh, ka, ba, ea, hS, hs⟩, -⟩ := id hW
  obtain ⟨⟨F0, hq0, -⟩, -⟩ := id hS
  refine xT.go hM rfl rfl rfl rfl rfl rfl (xc_virt rfl rfl rfl hq0 ⟨rfl, Nat.le_of_ble_eq_true rfl, rfl, Or.inl rfl⟩) rfl ⟨Nat.le_of_ble_eq_true rfl, Nat.le_of_ble_eq_true rfl, by decide⟩ (c_place hS) (fun v2 h2 hv2 => ?_)
  obtain ⟨⟨z2, rfl⟩, hh2⟩ := hv2
  subst h2
  have hG2 := hG
  have hW2 := hW
  refine xT.s1 hM rfl rfl ?_
  refine xT.s1 hM rfl rfl ?_
  refine xT.go hM rfl rfl rfl rfl rfl rfl (xc_virt rfl rfl rfl hG2.cell ⟨rfl, Nat.le_of_ble_eq_true rfl, rfl, Or.inl rfl⟩) rfl ⟨Nat.le_of_ble_eq_true rfl, Nat.le_of_ble_eq_true rfl, by decide⟩ (m_place hG2) (fun v3 h3 hv3 => ?_)
  obtain ⟨⟨z3, rfl⟩, F3, hG3, u3, l3, t3⟩ := hv3
  have hW3 := l_wk2 hW2 hG2 s3 s4 hG3 (fun k a _ => u3 k a)
  refine xT.s1 hM rfl rfl ?_
  refine xT.s1 hM rfl rfl ?_
  exact xT.weak (L' := [(4, _), (3, _), (2, _), (1, _), (0, _)]) ⟨by simp, by simp⟩ (next _ _ (⟨gb, gm, cap, capm, nn, y, F3, R, A, hW3, hG3, ⟨s1, s2, s3, s4⟩, by omega, by omega⟩))
theorem l_c4 (I : l_I e h q0 qt qb ql qa qo q q8 k len) (hk6 : 6 * k + 6 ≤ e.2.1) (hE : e.1 = .null ∨ ∃ w, e.1 = .float w) (hNC : e.2.2.2.1 = 601024) (hNS : e.2.2.2.2.1 = 7293034) (hL : e.2.1 ≤ 3072) (next : ∀ (h' : ab_H) (len2 : Nat), l_I e h' q0 qt qb ql qa qo q q8 (k + 1) len2 → xT e (d + 300) 0 473 [(4, .int (nI (6 * k))), (3, .ref qo), (2, .ref q), (1, .ref q0), (0, .float 0)] [] h' Q) : xT e (d + 300) 0 257 [(4, .int (nI (6 * k))), (3, .ref qo), (2, .ref q), (1, .ref q0), (0, .float 0)] [] h Q := by
  have hM : (x_mt e.1)[0]? = some xM0 := rfl
  obtain ⟨gb, gm, cap, capm, nn, y, F, R, A, hW, hG, ⟨s1, s2, s3, s4⟩, c1, c2⟩ := I
  have hcap := hW.2.1
  have hcm : capm ≤ 16384 := hG.2.2.2.2.2.2.2.1
  have htp := hG.tpl
  have r1 : h.length + 1 ≤ e.2.2.2.1 := by omega
  have r2 : ab_sz h + 6 ≤ e.2.2.2.2.1 := by omega
  refine xT.s1 hM rfl rfl ?_
  refine xT.s1 hM rfl rfl ?_
  refine xT.s1 hM rfl rfl ?_
  refine xT.s1 hM rfl rfl ?_
  refine xT.s1 hM rfl rfl ?_
  refine xT.sld (j := 6 * k + 1) hM rfl (nI_add (6 * k) 1) (by omega) (by omega) ?_
  refine xT.s1 hM rfl rfl ?_
  refine xT.s1 hM rfl rfl ?_
  refine xT.s1 hM rfl rfl ?_
  refine xT.s1 hM rfl rfl ?_
  refine xT.sld (j := 6 * k + 2) hM rfl (nI_add (6 * k) 2) (by omega) (by omega) ?_
  refine xT.s1 hM rfl rfl ?_
  refine xT.go hM rfl rfl rfl rfl rfl rfl (xc_stat rfl rfl ⟨rfl, Nat.le_of_ble_eq_true rfl⟩) rfl ⟨Nat.le_of_ble_eq_true rfl, Nat.le_of_ble_eq_true rfl, by decide⟩ (w_node hW r1 r2) (fun v2 h2 hv2 => ?_)
  obtain ⟨k5, y2, rfl, gb2, cap2, hW2, fr2, hl2, hc2, n2, z2⟩ := hv2
  have hG2 := l_mk hW hG s1 s2 s3 s4 fr2 hl2
  refine xT.s1 hM rfl rfl ?_
  refine xT.s1 hM rfl rfl ?_
  refine xT.s1 hM rfl rfl ?_
  refine xT.s1 hM rfl rfl ?_
  refine xT.s1 hM rfl rfl ?_
  refine xT.s1 hM rfl rfl ?_
  refine xT.sld (j := 6 * k + 1) hM rfl (nI_add (6 * k) 1) (by omega) (by omega) ?_
  refine xT.s1 hM rfl rfl ?_
  refine xT.s1 hM rfl rfl ?_
  refine xT.s1 hM rfl rfl ?_
  refine xT.s1 hM rfl rfl ?_
  refine xT.sld (j := 6 * k + 2) hM rfl (nI_add (6 * k) 2) (by omega) (by omega) ?_
  refine xT.go hM rfl rfl rfl rfl rfl rfl (xc_virt rfl rfl rfl hG2.cell ⟨rfl, Nat.le_of_ble_eq_true rfl, rfl, Or.inl rfl⟩) rfl ⟨Nat.le_of_ble_eq_true rfl, Nat.le_of_ble_eq_true rfl, by decide⟩ (m_nodeQ hG2) (fun v3 h3 hv3 => ?_)
  obtain ⟨⟨z3, rfl⟩, F3, hG3, u3, l3, t3⟩ := hv3
  have hW3 := l_wk2 hW2 hG2 s3 s4 hG3 (fun k a _ => u3 k a)
  refine xT.s1 hM rfl rfl ?_
  refine xT.s1 hM rfl rfl ?_
  exact xT.weak (L' := [(6, _), (5, _), (4, _), (3, _), (2, _), (1, _), (0, _)]) ⟨by simp, by simp⟩ (next _ _ (⟨gb2, gm, cap2, capm, nn, y2, F3, R, A, hW3, hG3, ⟨s1, s2, s3, s4⟩, by omega, by omega⟩))
theorem l_c5 (I : l_I e h q0 qt qb ql qa qo q q8 k len) (hk6 : 6 * k + 6 ≤ e.2.1) (hE : e.1 = .null ∨ ∃ w, e.1 = .float w) (hNC : e.2.2.2.1 = 601024) (hNS : e.2.2.2.2.1 = 7293034) (hL : e.2.1 ≤ 3072) (next : ∀ (h' : ab_H) (len2 : Nat), l_I e h' q0 qt qb ql qa qo q q8 (k + 1) len2 → xT e (d + 300) 0 473 [(4, .int (nI (6 * k))), (3, .ref qo), (2, .ref q), (1, .ref q0), (0, .float 0)] [] h' Q) : xT e (d + 300) 0 297 [(4, .int (nI (6 * k))), (3, .ref qo), (2, .ref q), (1, .ref q0), (0, .float 0)] [] h Q := by
  have hM : (x_mt e.1)[0]? = some xM0 := rfl
  obtain ⟨gb, gm, cap, capm, nn, y, F, R, A, hW, hG, ⟨s1, s2, s3, s4⟩, c1, c2⟩ := I
  have hcap := hW.2.1
  have hcm : capm ≤ 16384 := hG.2.2.2.2.2.2.2.1
  have htp := hG.tpl
  have r1 : h.length + 1 ≤ e.2.2.2.1 := by omega
  have r2 : ab_sz h + 6 ≤ e.2.2.2.2.1 := by omega
  refine xT.s1 hM rfl rfl ?_
  refine xT.s1 hM rfl rfl ?_
  refine xT.s1 hM rfl rfl ?_
  refine xT.s1 hM rfl rfl ?_
  refine xT.s1 hM rfl rfl ?_
  refine xT.sld (j := 6 * k + 1) hM rfl (nI_add (6 * k) 1) (by omega) (by omega) ?_
  refine xT.s1 hM rfl rfl ?_
  refine xT.s1 hM rfl rfl ?_
  refine xT.s1 hM rfl rfl ?_
  refine xT.s1 hM rfl rfl ?_
  refine xT.sld (j := 6 * k + 2) hM rfl (nI_add (6 * k) 2) (by omega) (by omega) ?_
  refine xT.s1 hM rfl rfl ?_
  refine xT.go hM rfl rfl rfl rfl rfl rfl (xc_stat rfl rfl ⟨rfl, Nat.le_of_ble_eq_true rfl⟩) rfl ⟨Nat.le_of_ble_eq_true rfl, Nat.le_of_ble_eq_true rfl, by decide⟩ (w_part hW r1 r2) (fun v2 h2 hv2 => ?_)
  obtain ⟨k5, y2, rfl, gb2, cap2, hW2, fr2, hl2, hc2, n2, z2⟩ := hv2
  have hG2 := l_mk hW hG s1 s2 s3 s4 fr2 hl2
  refine xT.s1 hM rfl rfl ?_
  refine xT.s1 hM rfl rfl ?_
  refine xT.s1 hM rfl rfl ?_
  refine xT.s1 hM rfl rfl ?_
  refine xT.s1 hM rfl rfl ?_
  refine xT.s1 hM rfl rfl ?_
  refine xT.sld (j := 6 * k + 1) hM rfl (nI_add (6 * k) 1) (by omega) (by omega) ?_
  refine xT.s1 hM rfl rfl ?_
  refine xT.s1 hM rfl rfl ?_
  refine xT.s1 hM rfl rfl ?_
  refine xT.s1 hM rfl rfl ?_
  refine xT.sld (j := 6 * k + 2) hM rfl (nI_add (6 * k) 2) (by omega) (by omega) ?_
  refine xT.go hM rfl rfl rfl rfl rfl rfl (xc_virt rfl rfl rfl hG2.cell ⟨rfl, Nat.le_of_ble_eq_true rfl, rfl, Or.inl rfl⟩) rfl ⟨Nat.le_of_ble_eq_true rfl, Nat.le_of_ble_eq_true rfl, by decide⟩ (m_part hG2) (fun v3 h3 hv3 => ?_)
  obtain ⟨⟨z3, rfl⟩, F3, hG3, u3, l3, t3⟩ := hv3
  have hW3 := l_wk2 hW2 hG2 s3 s4 hG3 (fun k a _ => u3 k a)
  refine xT.s1 hM rfl rfl ?_
  refine xT.s1 hM rfl rfl ?_
  exact xT.weak (L' := [(6, _), (5, _), (4, _), (3, _), (2, _), (1, _), (0, _)]) ⟨by simp, by simp⟩ (next _ _ (⟨gb2, gm, cap2, capm, nn, y2, F3, R, A, hW3, hG3, ⟨s1, s2, s3, s4⟩, by omega, by omega⟩))
theorem l_c6 (I : l_I e h q0 qt qb ql qa qo q q8 k len) (hk6 : 6 * k + 6 ≤ e.2.1) (hE : e.1 = .null ∨ ∃ w, e.1 = .float w) (hNC : e.2.2.2.1 = 601024) (hNS : e.2.2.2.2.1 = 7293034) (hL : e.2.1 ≤ 3072) (next : ∀ (h' : ab_H) (len2 : Nat), l_I e h' q0 qt qb ql qa qo q q8 (k + 1) len2 → xT e (d + 300) 0 473 [(4, .int (nI (6 * k))), (3, .ref qo), (2, .ref q), (1, .ref q0), (0, .float 0)] [] h' Q) : xT e (d + 300) 0 337 [(4, .int (nI (6 * k))), (3, .ref qo), (2, .ref q), (1, .ref q0), (0, .float 0)] [] h Q := by
  have hM : (x_mt e.1)[0]? = some xM0 := rfl
  obtain ⟨gb, gm, cap, capm, nn, y, F, R, A, hW, hG, ⟨s1, s2, s3, s4⟩, c1, c2⟩ := I
  have hcap := hW.2.1
  have hcm : capm ≤ 16384 := hG.2.2.2.2.2.2.2.1
  have htp := hG.tpl
  have r1 : h.length + 1 ≤ e.2.2.2.1 := by omega
  have r2 : ab_sz h + 6 ≤ e.2.2.2.2.1 := by omega
  refine xT.s1 hM rfl rfl ?_
  refine xT.s1 hM rfl rfl ?_
  refine xT.s1 hM rfl rfl ?_
  refine xT.s1 hM rfl rfl ?_
  refine xT.s1 hM rfl rfl ?_
  refine xT.sld (j := 6 * k + 1) hM rfl (nI_add (6 * k) 1) (by omega) (by omega) ?_
  refine xT.s1 hM rfl rfl ?_
  refine xT.go hM rfl rfl rfl rfl rfl rfl (xc_stat rfl rfl ⟨rfl, Nat.le_of_ble_eq_true rfl⟩) rfl ⟨Nat.le_of_ble_eq_true rfl, Nat.le_of_ble_eq_true rfl, by decide⟩ (w_number hW r1 r2) (fun v2 h2 hv2 => ?_)
  obtain ⟨k5, y2, rfl, gb2, cap2, hW2, fr2, hl2, hc2, n2, z2⟩ := hv2
  have hG2 := l_mk hW hG s1 s2 s3 s4 fr2 hl2
  refine xT.s1 hM rfl rfl ?_
  refine xT.s1 hM rfl rfl ?_
  refine xT.s1 hM rfl rfl ?_
  refine xT.s1 hM rfl rfl ?_
  refine xT.s1 hM rfl rfl ?_
  refine xT.s1 hM rfl rfl ?_
  refine xT.sld (j := 6 * k + 1) hM rfl (nI_add (6 * k) 1) (by omega) (by omega) ?_
  refine xT.go hM rfl rfl rfl rfl rfl rfl (xc_virt rfl rfl rfl hG2.cell ⟨rfl, Nat.le_of_ble_eq_true rfl, rfl, Or.inl rfl⟩) rfl ⟨Nat.le_of_ble_eq_true rfl, Nat.le_of_ble_eq_true rfl, by decide⟩ (m_number hG2) (fun v3 h3 hv3 => ?_)
  obtain ⟨⟨z3, rfl⟩, F3, hG3, u3, l3, t3⟩ := hv3
  have hW3 := l_wk2 hW2 hG2 s3 s4 hG3 (fun k a _ => u3 k a)
  refine xT.s1 hM rfl rfl ?_
  refine xT.s1 hM rfl rfl ?_
  exact xT.weak (L' := [(6, _), (5, _), (4, _), (3, _), (2, _), (1, _), (0, _)]) ⟨by simp, by simp⟩ (next _ _ (⟨gb2, gm, cap2, capm, nn, y2, F3, R, A, hW3, hG3, ⟨s1, s2, s3, s4⟩, by omega, by omega⟩))
theorem l_c7 (I : l_I e h q0 qt qb ql qa qo q q8 k len) (hk6 : 6 * k + 6 ≤ e.2.1) (hE : e.1 = .null ∨ ∃ w, e.1 = .float w) (hNC : e.2.2.2.1 = 601024) (hNS : e.2.2.2.2.1 = 7293034) (hL : e.2.1 ≤ 3072) (next : ∀ (h' : ab_H) (len2 : Nat), l_I e h' q0 qt qb ql qa qo q q8 (k + 1) len2 → xT e (d + 300) 0 473 [(4, .int (nI (6 * k))), (3, .ref qo), (2, .ref q), (1, .ref q0), (0, .float 0)] [] h' Q) : xT e (d + 300) 0 365 [(4, .int (nI (6 * k))), (3, .ref qo), (2, .ref q), (1, .ref q0), (0, .float 0)] [] h Q := by
  have hM : (x_mt e.1)[0]? = some xM0 := rfl
  obtain ⟨gb, gm, cap, capm, nn, y, F, R, A, hW, hG, ⟨s1, s2, s3, s4⟩, c1, c2⟩ := I
  have hcap := hW.2.1
  have hcm : capm ≤ 16384 := hG.2.2.2.2.2.2.2.1
  have htp := hG.tpl
  have r1 : h.length + 1 ≤ e.2.2.2.1 := by omega
  have r2 : ab_sz h + 6 ≤ e.2.2.2.2.1 := by omega
  refine xT.s1 hM rfl rfl ?_
  refine xT.s1 hM rfl rfl ?_
  refine xT.s1 hM rfl rfl ?_
  refine xT.s1 hM rfl rfl ?_
  refine xT.s1 hM rfl rfl ?_
  refine xT.sld (j := 6 * k + 1) hM rfl (nI_add (6 * k) 1) (by omega) (by omega) ?_
  refine xT.s1 hM rfl rfl ?_
  refine xT.s1 hM rfl rfl ?_
  refine xT.s1 hM rfl rfl ?_
  refine xT.s1 hM rfl rfl ?_
  refine xT.sld (j := 6 * k + 2) hM rfl (nI_add (6 * k) 2) (by omega) (by omega) ?_
  refine xT.s1 hM rfl rfl ?_
  refine xT.go hM rfl rfl rfl rfl rfl rfl (xc_stat rfl rfl ⟨rfl, Nat.le_of_ble_eq_true rfl⟩) rfl ⟨Nat.le_of_ble_eq_true rfl, Nat.le_of_ble_eq_true rfl, by decide⟩ (w_unit hW r1 r2) (fun v2 h2 hv2 => ?_)
  obtain ⟨k5, y2, rfl, gb2, cap2, hW2, fr2, hl2, hc2, n2, z2⟩ := hv2
  have hG2 := l_mk hW hG s1 s2 s3 s4 fr2 hl2
  refine xT.s1 hM rfl rfl ?_
  refine xT.s1 hM rfl rfl ?_
  refine xT.s1 hM rfl rfl ?_
  refine xT.s1 hM rfl rfl ?_
  refine xT.s1 hM rfl rfl ?_
  refine xT.s1 hM rfl rfl ?_
  refine xT.sld (j := 6 * k + 1) hM rfl (nI_add (6 * k) 1) (by omega) (by omega) ?_
  refine xT.s1 hM rfl rfl ?_
  refine xT.s1 hM rfl rfl ?_
  refine xT.s1 hM rfl rfl ?_
  refine xT.s1 hM rfl rfl ?_
  refine xT.sld (j := 6 * k + 2) hM rfl (nI_add (6 * k) 2) (by omega) (by omega) ?_
  refine xT.go hM rfl rfl rfl rfl rfl rfl (xc_virt rfl rfl rfl hG2.cell ⟨rfl, Nat.le_of_ble_eq_true rfl, rfl, Or.inl rfl⟩) rfl ⟨Nat.le_of_ble_eq_true rfl, Nat.le_of_ble_eq_true rfl, by decide⟩ (m_unit hE hG2) (fun v3 h3 hv3 => ?_)
  obtain ⟨⟨z3, rfl⟩, F3, hG3, u3, l3, t3⟩ := hv3
  have hW3 := l_wk2 hW2 hG2 s3 s4 hG3 (fun k a _ => u3 k a)
  refine xT.s1 hM rfl rfl ?_
  refine xT.s1 hM rfl rfl ?_
  exact xT.weak (L' := [(6, _), (5, _), (4, _), (3, _), (2, _), (1, _), (0, _)]) ⟨by simp, by simp⟩ (next _ _ (⟨gb2, gm, cap2, capm, nn, y2, F3, R, A, hW3, hG3, ⟨s1, s2, s3, s4⟩, by omega, by omega⟩))
theorem l_c8 (I : l_I e h q0 qt qb ql qa qo q q8 k len) (hk6 : 6 * k + 6 ≤ e.2.1) (hE : e.1 = .null ∨ ∃ w, e.1 = .float w) (hNC : e.2.2.2.1 = 601024) (hNS : e.2.2.2.2.1 = 7293034) (hL : e.2.1 ≤ 3072) (next : ∀ (h' : ab_H) (len2 : Nat), l_I e h' q0 qt qb ql qa qo q q8 (k + 1) len2 → xT e (d + 300) 0 473 [(4, .int (nI (6 * k))), (3, .ref qo), (2, .ref q), (1, .ref q0), (0, .float 0)] [] h' Q) : xT e (d + 300) 0 405 [(4, .int (nI (6 * k))), (3, .ref qo), (2, .ref q), (1, .ref q0), (0, .float 0)] [] h Q := by
  have hM : (x_mt e.1)[0]? = some xM0 := rfl
  obtain ⟨gb, gm, cap, capm, nn, y, F, R, A, hW, hG, ⟨s1, s2, s3, s4⟩, c1, c2⟩ := I
  have hcap := hW.2.1
  have hcm : capm ≤ 16384 := hG.2.2.2.2.2.2.2.1
  have htp := hG.tpl
  have r1 : h.length + 1 ≤ e.2.2.2.1 := by omega
  have r2 : ab_sz h + 6 ≤ e.2.2.2.2.1 := by omega
  refine xT.s1 hM rfl rfl ?_
  refine xT.s1 hM rfl rfl ?_
  refine xT.s1 hM rfl rfl ?_
  refine xT.s1 hM rfl rfl ?_
  refine xT.s1 hM rfl rfl ?_
  refine xT.sld (j := 6 * k + 1) hM rfl (nI_add (6 * k) 1) (by omega) (by omega) ?_
  refine xT.s1 hM rfl rfl ?_
  refine xT.s1 hM rfl rfl ?_
  refine xT.s1 hM rfl rfl ?_
  refine xT.s1 hM rfl rfl ?_
  refine xT.sld (j := 6 * k + 2) hM rfl (nI_add (6 * k) 2) (by omega) (by omega) ?_
  refine xT.s1 hM rfl rfl ?_
  refine xT.go hM rfl rfl rfl rfl rfl rfl (xc_stat rfl rfl ⟨rfl, Nat.le_of_ble_eq_true rfl⟩) rfl ⟨Nat.le_of_ble_eq_true rfl, Nat.le_of_ble_eq_true rfl, by decide⟩ (w_same hW r1 r2) (fun v2 h2 hv2 => ?_)
  obtain ⟨k5, y2, rfl, gb2, cap2, hW2, fr2, hl2, hc2, n2, z2⟩ := hv2
  have hG2 := l_mk hW hG s1 s2 s3 s4 fr2 hl2
  refine xT.s1 hM rfl rfl ?_
  refine xT.s1 hM rfl rfl ?_
  refine xT.s1 hM rfl rfl ?_
  refine xT.s1 hM rfl rfl ?_
  refine xT.s1 hM rfl rfl ?_
  refine xT.s1 hM rfl rfl ?_
  refine xT.sld (j := 6 * k + 1) hM rfl (nI_add (6 * k) 1) (by omega) (by omega) ?_
  refine xT.s1 hM rfl rfl ?_
  refine xT.s1 hM rfl rfl ?_
  refine xT.s1 hM rfl rfl ?_
  refine xT.s1 hM rfl rfl ?_
  refine xT.sld (j := 6 * k + 2) hM rfl (nI_add (6 * k) 2) (by omega) (by omega) ?_
  refine xT.go hM rfl rfl rfl rfl rfl rfl (xc_virt rfl rfl rfl hG2.cell ⟨rfl, Nat.le_of_ble_eq_true rfl, rfl, Or.inl rfl⟩) rfl ⟨Nat.le_of_ble_eq_true rfl, Nat.le_of_ble_eq_true rfl, by decide⟩ (m_same hG2) (fun v3 h3 hv3 => ?_)
  obtain ⟨⟨z3, rfl⟩, F3, hG3, u3, l3, t3⟩ := hv3
  have hW3 := l_wk2 hW2 hG2 s3 s4 hG3 (fun k a _ => u3 k a)
  refine xT.s1 hM rfl rfl ?_
  refine xT.s1 hM rfl rfl ?_
  exact xT.weak (L' := [(6, _), (5, _), (4, _), (3, _), (2, _), (1, _), (0, _)]) ⟨by simp, by simp⟩ (next _ _ (⟨gb2, gm, cap2, capm, nn, y2, F3, R, A, hW3, hG3, ⟨s1, s2, s3, s4⟩, by omega, by omega⟩))
theorem l_c9 (I : l_I e h q0 qt qb ql qa qo q q8 k len) (hk6 : 6 * k + 6 ≤ e.2.1) (hE : e.1 = .null ∨ ∃ w, e.1 = .float w) (hNC : e.2.2.2.1 = 601024) (hNS : e.2.2.2.2.1 = 7293034) (hL : e.2.1 ≤ 3072) (next : ∀ (h' : ab_H) (len2 : Nat), l_I e h' q0 qt qb ql qa qo q q8 (k + 1) len2 → xT e (d + 300) 0 473 [(4, .int (nI (6 * k))), (3, .ref qo), (2, .ref q), (1, .ref q0), (0, .float 0)] [] h' Q) : xT e (d + 300) 0 445 [(4, .int (nI (6 * k))), (3, .ref qo), (2, .ref q), (1, .ref q0), (0, .float 0)] [] h Q := by
  have hM : (x_mt e.1)[0]? = some xM0 := rfl
  obtain ⟨gb, gm, cap, capm, nn, y, F, R, A, hW, hG, ⟨s1, s2, s3, s4⟩, c1, c2⟩ := I
  have hcap := hW.2.1
  have hcm : capm ≤ 16384 := hG.2.2.2.2.2.2.2.1
  have htp := hG.tpl
  have r1 : h.length + 1 ≤ e.2.2.2.1 := by omega
  have r2 : ab_sz h + 6 ≤ e.2.2.2.2.1 := by omega
  refine xT.s1 hM rfl rfl ?_
  refine xT.s1 hM rfl rfl ?_
  refine xT.s1 hM rfl rfl ?_
  refine xT.s1 hM rfl rfl ?_
  refine xT.s1 hM rfl rfl ?_
  refine xT.sld (j := 6 * k + 1) hM rfl (nI_add (6 * k) 1) (by omega) (by omega) ?_
  refine xT.s1 hM rfl rfl ?_
  refine xT.go hM rfl rfl rfl rfl rfl rfl (xc_stat rfl rfl ⟨rfl, Nat.le_of_ble_eq_true rfl⟩) rfl ⟨Nat.le_of_ble_eq_true rfl, Nat.le_of_ble_eq_true rfl, by decide⟩ (w_count hW r1 r2) (fun v2 h2 hv2 => ?_)
  obtain ⟨k5, y2, rfl, gb2, cap2, hW2, fr2, hl2, hc2, n2, z2⟩ := hv2
  have hG2 := l_mk hW hG s1 s2 s3 s4 fr2 hl2
  refine xT.s1 hM rfl rfl ?_
  refine xT.s1 hM rfl rfl ?_
  refine xT.s1 hM rfl rfl ?_
  refine xT.s1 hM rfl rfl ?_
  refine xT.s1 hM rfl rfl ?_
  refine xT.s1 hM rfl rfl ?_
  refine xT.sld (j := 6 * k + 1) hM rfl (nI_add (6 * k) 1) (by omega) (by omega) ?_
  refine xT.go hM rfl rfl rfl rfl rfl rfl (xc_virt rfl rfl rfl hG2.cell ⟨rfl, Nat.le_of_ble_eq_true rfl, rfl, Or.inl rfl⟩) rfl ⟨Nat.le_of_ble_eq_true rfl, Nat.le_of_ble_eq_true rfl, by decide⟩ (m_count hG2) (fun v3 h3 hv3 => ?_)
  obtain ⟨⟨z3, rfl⟩, F3, hG3, u3, l3, t3⟩ := hv3
  have hW3 := l_wk2 hW2 hG2 s3 s4 hG3 (fun k a _ => u3 k a)
  refine xT.s1 hM rfl rfl ?_
  refine xT.s1 hM rfl rfl ?_
  exact xT.weak (L' := [(6, _), (5, _), (4, _), (3, _), (2, _), (1, _), (0, _)]) ⟨by simp, by simp⟩ (next _ _ (⟨gb2, gm, cap2, capm, nn, y2, F3, R, A, hW3, hG3, ⟨s1, s2, s3, s4⟩, by omega, by omega⟩))
end XLC
