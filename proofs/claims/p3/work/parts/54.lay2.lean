/-! the reference: lay, of every tree -/
section XLB
variable {e : xE} {q k : Nat}
theorem m_layS (HL : m_LY e q k) : m_LY e q (k + 1) := by
  intro d l u b s n0 cs Fs Rs As hs ar hT hu hE hnd hq hR hs8 hcap r1 r2
  have hM : (x_mt e.1)[34]? = some xM34 := rfl
  obtain ⟨G, qp, qn, ql, c, n, pf, nf, lf, ss, hV1, ch, hsz⟩ := hT
  have hU : m_U k e hs l u b G qp qn ql c n pf nf lf ss := ⟨hV1, ch⟩
  obtain ⟨⟨⟨ha, la, ⟨g5, g6, g7, g8⟩, ⟨hp, hn, hl⟩, ⟨c1, c2⟩, chv, cn⟩, ⟨kd, g0, kd12, k8, tx, g4, tx1, tx2⟩, ⟨px, g1⟩, ⟨zx, g3⟩, b1, b2, b3, b4⟩, ch⟩ := id hU
  refine xT.s1 hM rfl rfl ?_
  refine xT.s2 hM rfl rfl (x2_get rfl (Or.inr rfl) ha g0) ?_
  rcases (show kd ≤ 3 ∨ kd = 4 ∨ (5 ≤ kd ∧ kd ≤ 7) ∨ kd = 8 ∨ (9 ≤ kd ∧ kd ≤ 12) from by omega) with hk | hk | hk | hk | hk
  · have hsw : ab_sw 4 (.tableswitch 146 0 8 #[52, 52, 52, 52, 72, 91, 91, 91, 112]) [.int (nI kd)] = some (56, []) := by
      rcases (show kd = 0 ∨ kd = 1 ∨ kd = 2 ∨ kd = 3 from by omega) with y | y | y | y <;> (rw [y]; rfl)
    refine xT.sw hM rfl rfl rfl rfl hsw ?_
    refine xT.s1 hM rfl rfl ?_
    refine xT.s1 hM rfl rfl ?_
    refine xT.s2 hM rfl rfl (x2_get rfl (Or.inr rfl) ha g0) ?_
    refine xT.s1 hM rfl rfl ?_
    refine xT.s1 hM rfl rfl ?_
    refine xT.s1 hM rfl rfl ?_
    refine xT.s2 hM rfl rfl (x2_get rfl (Or.inr rfl) ha g1) ?_
    refine xT.s1 hM rfl rfl ?_
    refine xT.s1 hM rfl rfl ?_
    refine xT.s1 hM rfl rfl ?_
    refine xT.s1 hM rfl rfl ?_
    rw [show nI kd + Int32.ofInt 1 = nI (kd + 1) from nI_add kd 1]
    refine xT.go hM rfl rfl rfl rfl rfl rfl (xc_virt rfl rfl rfl hE.1.1 ⟨rfl, Nat.le_of_ble_eq_true rfl, rfl, Or.inl rfl⟩) rfl ⟨Nat.le_of_ble_eq_true rfl, Nat.le_of_ble_eq_true rfl, by decide⟩ (m_nodeE hE hnd ha (Or.inl rfl) (by omega) hcap r1 r2) (fun v h1 hv => ?_)
    obtain ⟨rfl, F1, cap1, R1, A1, hE1, hR1, w1, w2, w3, w4, w5⟩ := hv
    have hnd1 : ∀ j, j < n0 + 1 → m_nd e h1 A1 j := fun j hj => by
      by_cases hjn : j = n0
      · subst hjn
        refine ⟨⟨b, G, zx, tx, w1, hR1.obj hE ha, g3, g4, fun y1 y2 => ?_⟩, ?_⟩
        · rw [w2] at y1 y2; exact absurd ((nI_leI (a := 6) (by omega) (by omega)).mp y1) (by omega)
        · rw [w5]; exact Or.inl rfl
      · exact hR1.nd hE (by omega) (hnd j (by omega))
    refine xT.s1 hM rfl rfl ?_
    exact xT.ret hM rfl rfl rfl rfl ⟨_, rfl, rfl, n0 + 1, F1, cap1, R1, A1, hE1, hR1, by omega, by omega, hnd1, w4, fun j j1 j2 => ⟨0, by rw [show j = n0 from by omega]; exact w3.trans (by decide), Nat.zero_le _, by omega⟩⟩
  · have hsw : ab_sw 4 (.tableswitch 146 0 8 #[52, 52, 52, 52, 72, 91, 91, 91, 112]) [.int (nI kd)] = some (76, []) := by rw [hk]; rfl
    refine xT.sw hM rfl rfl rfl rfl hsw ?_
    refine xT.s1 hM rfl rfl ?_
    refine xT.s1 hM rfl rfl ?_
    refine xT.s1 hM rfl rfl ?_
    refine xT.s2 hM rfl rfl (x2_get rfl (Or.inr rfl) ha g1) ?_
    refine xT.s1 hM rfl rfl ?_
    refine xT.s1 hM rfl rfl ?_
    refine xT.s1 hM rfl rfl ?_
    refine xT.s2 hM rfl rfl (x2_get rfl (Or.inr rfl) ha g4) ?_
    refine xT.s1 hM rfl rfl ?_
    refine xT.go hM rfl rfl rfl rfl rfl rfl (xc_virt rfl rfl rfl hE.1.1 ⟨rfl, Nat.le_of_ble_eq_true rfl, rfl, Or.inl rfl⟩) rfl ⟨Nat.le_of_ble_eq_true rfl, by show (lg_sl [_, _, _, _, _, tx, _]).length ≤ _; rw [x_sl7 (x_nmc tx1)]; decide, by decide⟩ (xT.cast (x_lv7 (x_nmc tx1)) (m_nodeE hE hnd ha (tx1) (by omega) hcap r1 r2)) (fun v h1 hv => ?_)
    obtain ⟨rfl, F1, cap1, R1, A1, hE1, hR1, w1, w2, w3, w4, w5⟩ := hv
    have hnd1 : ∀ j, j < n0 + 1 → m_nd e h1 A1 j := fun j hj => by
      by_cases hjn : j = n0
      · subst hjn
        refine ⟨⟨b, G, zx, tx, w1, hR1.obj hE ha, g3, g4, fun y1 y2 => ?_⟩, ?_⟩
        · rw [w2] at y1 y2; exact absurd y1 (by decide)
        · rw [w5]; rcases tx1 with z | ⟨m, z⟩
          · exact Or.inl z
          · exact Or.inr ⟨m, hR1.str hE z⟩
      · exact hR1.nd hE (by omega) (hnd j (by omega))
    refine xT.s1 hM rfl rfl ?_
    exact xT.ret hM rfl rfl rfl rfl ⟨_, rfl, rfl, n0 + 1, F1, cap1, R1, A1, hE1, hR1, by omega, by omega, hnd1, w4, fun j j1 j2 => ⟨0, by rw [show j = n0 from by omega]; exact w3.trans (by decide), Nat.zero_le _, by omega⟩⟩
  · have hsw : ab_sw 4 (.tableswitch 146 0 8 #[52, 52, 52, 52, 72, 91, 91, 91, 112]) [.int (nI kd)] = some (95, []) := by
      rcases (show kd = 5 ∨ kd = 6 ∨ kd = 7 from by omega) with y | y | y <;> (rw [y]; rfl)
    refine xT.sw hM rfl rfl rfl rfl hsw ?_
    refine xT.s1 hM rfl rfl ?_
    refine xT.s1 hM rfl rfl ?_
    refine xT.s2 hM rfl rfl (x2_get rfl (Or.inr rfl) ha g0) ?_
    refine xT.s1 hM rfl rfl ?_
    refine xT.s1 hM rfl rfl ?_
    refine xT.s1 hM rfl rfl ?_
    refine xT.s2 hM rfl rfl (x2_get rfl (Or.inr rfl) ha g1) ?_
    refine xT.s1 hM rfl rfl ?_
    refine xT.s1 hM rfl rfl ?_
    refine xT.s1 hM rfl rfl ?_
    refine xT.s1 hM rfl rfl ?_
    rw [show nI kd + Int32.ofInt 1 = nI (kd + 1) from nI_add kd 1]
    refine xT.go hM rfl rfl rfl rfl rfl rfl (xc_virt rfl rfl rfl hE.1.1 ⟨rfl, Nat.le_of_ble_eq_true rfl, rfl, Or.inl rfl⟩) rfl ⟨Nat.le_of_ble_eq_true rfl, Nat.le_of_ble_eq_true rfl, by decide⟩ (m_nodeE hE hnd ha (Or.inl rfl) (by omega) hcap r1 r2) (fun v h1 hv => ?_)
    obtain ⟨rfl, F1, cap1, R1, A1, hE1, hR1, w1, w2, w3, w4, w5⟩ := hv
    have hnd1 : ∀ j, j < n0 + 1 → m_nd e h1 A1 j := fun j hj => by
      by_cases hjn : j = n0
      · subst hjn
        refine ⟨⟨b, G, zx, tx, w1, hR1.obj hE ha, g3, g4, fun y1 y2 => ?_⟩, ?_⟩
        · rw [w2] at y1 y2; obtain ⟨m, z⟩ := tx2 (by omega); exact ⟨m, hR1.str hE z⟩
        · rw [w5]; exact Or.inl rfl
      · exact hR1.nd hE (by omega) (hnd j (by omega))
    refine xT.s1 hM rfl rfl ?_
    exact xT.ret hM rfl rfl rfl rfl ⟨_, rfl, rfl, n0 + 1, F1, cap1, R1, A1, hE1, hR1, by omega, by omega, hnd1, w4, fun j j1 j2 => ⟨0, by rw [show j = n0 from by omega]; exact w3.trans (by decide), Nat.zero_le _, by omega⟩⟩
  · have hsw : ab_sw 4 (.tableswitch 146 0 8 #[52, 52, 52, 52, 72, 91, 91, 91, 112]) [.int (nI kd)] = some (116, []) := by rw [hk]; rfl
    refine xT.sw hM rfl rfl rfl rfl hsw ?_
    have hc1 := k8 hk
    subst hc1
    refine xT.s1 hM rfl rfl ?_
    refine xT.s1 hM rfl rfl ?_
    refine xT.s1 hM rfl rfl ?_
    refine xT.s2 hM rfl rfl (x2_get rfl (Or.inr rfl) ha g1) ?_
    refine xT.s1 hM rfl rfl ?_
    refine xT.s1 hM rfl rfl ?_
    refine xT.s1 hM rfl rfl ?_
    refine xT.s2 hM rfl rfl (x2_get rfl (Or.inr rfl) ha g6) ?_
    refine xT.s1 hM rfl rfl ?_
    refine xT.aald (k := 0) hM rfl hn rfl (by omega) (by omega) ?_
    have hnm := cn 0 (by omega)
    refine xT.s1 hM rfl rfl ?_
    refine xT.go hM rfl rfl rfl rfl rfl rfl (xc_virt rfl rfl rfl hE.1.1 ⟨rfl, Nat.le_of_ble_eq_true rfl, rfl, Or.inl rfl⟩) rfl ⟨Nat.le_of_ble_eq_true rfl, by show (lg_sl [_, _, _, _, _, nf 0, _]).length ≤ _; rw [x_sl7 (x_nmc hnm)]; decide, by decide⟩ (xT.cast (x_lv7 (x_nmc hnm)) (m_nodeE hE hnd ha (hnm) (by omega) hcap r1 r2)) (fun v h1 hv => ?_)
    obtain ⟨rfl, F1, cap1, R1, A1, hE1, hR1, w1, w2, w3, w4, w5⟩ := hv
    have hnd1 : ∀ j, j < n0 + 1 → m_nd e h1 A1 j := fun j hj => by
      by_cases hjn : j = n0
      · subst hjn
        refine ⟨⟨b, G, zx, tx, w1, hR1.obj hE ha, g3, g4, fun y1 y2 => ?_⟩, ?_⟩
        · rw [w2] at y1 y2; exact absurd y2 (by decide)
        · rw [w5]; rcases hnm with z | ⟨m, z⟩
          · exact Or.inl z
          · exact Or.inr ⟨m, hR1.str hE z⟩
      · exact hR1.nd hE (by omega) (hnd j (by omega))
    have hn1' := hR1.1
    have kp1 := hR1.kp hE hq hR
    have ha1 := kp1.1 _ _ ha b1.1 b1.2
    have hp1 := kp1.1 _ _ hp b2.1 b2.2
    obtain ⟨bi, li, ui, x1, x2, x3, x4⟩ := ch 0 (by omega)
    have x2 := m_T.kept _ _ _ _ _ (kp1.sub x3 x4) x2
    have hl1 := hR1.2.2.2.2.2.1
    have y7 := hR1.2.2.2.2.2.2.1
    have y8 := hR1.2.2.2.2.2.2.2.1
    have y9 := hR1.2.2.2.2.2.2.2.2.1
    have y10 := hR1.2.2.2.2.2.2.2.2.2
    have hRo := hR1.out hu hR
    have hs1 : 1 + (0 + (1 + ss 0)) ≤ s := hsz
    refine xT.s1 hM rfl rfl ?_
    refine xT.s1 hM rfl rfl ?_
    refine xT.s1 hM rfl rfl ?_
    refine xT.s2 hM rfl rfl (x2_get rfl (Or.inr rfl) ha1 g5) ?_
    refine xT.s1 hM rfl rfl ?_
    refine xT.aald (k := 0) hM rfl hp1 rfl (by omega) (by omega) ?_
    rw [x1]
    refine xT.s1 hM rfl rfl ?_
    have hrec := HL d li ui bi (ss 0) (n0 + 1) cap1 F1 R1 A1 h1 (nI n0) x2 (by omega) hE1 hnd1 (by omega) (fun j hj => by have := hRo j hj; omega) (by omega) y10 (by omega) (by omega)
    refine xT.go hM rfl rfl rfl rfl rfl rfl (xc_virt rfl rfl rfl hE1.1.1 ⟨rfl, Nat.le_of_ble_eq_true rfl, rfl, Or.inl rfl⟩) rfl ⟨Nat.le_of_ble_eq_true rfl, Nat.le_of_ble_eq_true rfl, by decide⟩ (hrec) (fun v h2 hv => ?_)
    obtain ⟨rfl, nn2, F2, cap2, R2, A2, hE2, hR2, v1, v2, hnd2, hab2, hct2⟩ := hv
    have a0 := hR2.2.1 n0 (by omega)
    exact xT.ret hM rfl rfl rfl rfl ⟨_, rfl, rfl, nn2, F2, cap2, R2, A2, hE2, hR1.tr hR2, by omega, by omega, hnd2, a0.2.2.2.1.trans w4, fun j j1 j2 => by
      by_cases hj : j = n0
      · subst hj
        refine ⟨1, a0.2.2.1.trans (w3.trans (by decide)), ?_, by omega⟩
        have := m_cnt_in (ab := m_ab A2) (i := j) (j := j + 1) (n := nn2) (by omega) (by omega) hab2
        omega
      · exact hct2 j (by omega) j2⟩
  · have hsw : ab_sw 4 (.tableswitch 146 0 8 #[52, 52, 52, 52, 72, 91, 91, 91, 112]) [.int (nI kd)] = some (150, []) := by
      rcases (show kd = 9 ∨ kd = 10 ∨ kd = 11 ∨ kd = 12 from by omega) with y | y | y | y <;> (rw [y]; rfl)
    refine xT.sw hM rfl rfl rfl rfl hsw ?_
    have fin : ∀ K : Int32, (8 < K) → xT e (d + (k + 1) + 1) 34 195 [(0, .ref q), (1, .ref b), (2, .int ar)] [.int K, .ref q] hs (fun o h' => ∃ v, o = .inl v ∧ m_LQ2 e hs q Fs n0 cs Rs As s ar v h') := by
      intro K hK
      refine xT.s1 hM rfl rfl ?_
      refine xT.s2 hM rfl rfl (x2_get rfl (Or.inr rfl) ha g1) ?_
      refine xT.s1 hM rfl rfl ?_
      refine xT.s2 hM rfl rfl (x2_get rfl (Or.inr rfl) ha g8) ?_
      refine xT.s1 hM rfl rfl ?_
      refine xT.s1 hM rfl rfl ?_
      refine xT.s1 hM rfl rfl ?_
      refine xT.go hM rfl rfl rfl rfl rfl rfl (xc_virt rfl rfl rfl hE.1.1 ⟨rfl, Nat.le_of_ble_eq_true rfl, rfl, Or.inl rfl⟩) rfl ⟨Nat.le_of_ble_eq_true rfl, Nat.le_of_ble_eq_true rfl, by decide⟩ (m_nodeE hE hnd ha (Or.inl rfl) (by omega) hcap r1 r2) (fun v h1 hv => ?_)
      obtain ⟨rfl, F1, cap1, R1, A1, hE1, hR1, w1, w2, w3, w4, w5⟩ := hv
      have hnd1 : ∀ j, j < n0 + 1 → m_nd e h1 A1 j := fun j hj => by
        by_cases hjn : j = n0
        · subst hjn
          refine ⟨⟨b, G, zx, tx, w1, hR1.obj hE ha, g3, g4, fun y1 y2 => ?_⟩, ?_⟩
          · rw [w2] at y1 y2; exact absurd y2 (Int32.not_le.mpr hK)
          · rw [w5]; exact Or.inl rfl
        · exact hR1.nd hE (by omega) (hnd j (by omega))
      have hn1' := hR1.1
      have kp1 := hR1.kp hE hq hR
      have hl1 := hR1.2.2.2.2.2.1
      have y7 := hR1.2.2.2.2.2.2.1
      have y8 := hR1.2.2.2.2.2.2.2.1
      have y9 := hR1.2.2.2.2.2.2.2.2.1
      have y10 := hR1.2.2.2.2.2.2.2.2.2
      refine xT.s1 hM rfl rfl ?_
      refine xT.s1 hM rfl rfl ?_
      refine xT.s1 hM rfl rfl ?_
      exact m_layLoop (d := d) (kd := kd) HL hq g0 (fun x hx h12 => by injection hx with hx; injection hx with hx; exact ((nI_eq (by omega) (by omega)).mp hx).symm) hsz hs8 hu (c + 1) 0 (n0 + 1) cap1 F1 R1 A1 h1 (by omega) (by omega) (hU.kept kp1) (by omega) hE1 hnd1 (hR1.out hu hR) hR1 (by omega) w3 (Nat.zero_le _) (fun j j1 j2 => absurd j2 (by omega)) w4 (by show n0 + 1 ≤ n0 + 1 + 0; omega) y10 (by omega) (by omega)
    refine xT.s1 hM rfl rfl ?_
    refine xT.s1 hM rfl rfl ?_
    refine xT.s2 hM rfl rfl (x2_get rfl (Or.inr rfl) ha g0) ?_
    refine xT.s1 hM rfl rfl ?_
    refine xT.s1 hM rfl rfl ?_
    refine xT.br (fun b1 => ?_) (fun b1 => ?_)
    · refine xT.s1 hM rfl rfl ?_
      refine xT.s1 hM rfl rfl ?_
      exact fin _ (by decide)
    · refine xT.s1 hM rfl rfl ?_
      refine xT.s2 hM rfl rfl (x2_get rfl (Or.inr rfl) ha g0) ?_
      refine xT.s1 hM rfl rfl ?_
      refine xT.s1 hM rfl rfl ?_
      refine xT.br (fun b2 => ?_) (fun b2 => ?_)
      · refine xT.s1 hM rfl rfl ?_
        refine xT.s1 hM rfl rfl ?_
        exact fin _ (by decide)
      · refine xT.s1 hM rfl rfl ?_
        refine xT.s2 hM rfl rfl (x2_get rfl (Or.inr rfl) ha g0) ?_
        refine xT.s1 hM rfl rfl ?_
        refine xT.s1 hM rfl rfl ?_
        refine xT.br (fun b3 => ?_) (fun b3 => ?_)
        · refine xT.s1 hM rfl rfl ?_
          refine xT.s1 hM rfl rfl ?_
          exact fin _ (by decide)
        · refine xT.s1 hM rfl rfl ?_
          exact fin _ (by decide)
theorem m_lay (e : xE) (q : Nat) : ∀ k, m_LY e q k := by
  intro k
  induction k with
  | zero => intro d l u b s nn cap F R A h ar hT; exact absurd hT id
  | succ k ih => exact m_layS ih
end XLB
