/-! the reference: part, same, end, feed -/
section XMD
variable {e : xE} {d q q8 tp nn cap : Nat} {gb : Nat → Int32} {h h' : ab_H} {F F' : List Value} {R : Nat → Nat} {A : m_AT}
theorem x_dec (n : Nat) : nI (n + 1) + Int32.ofInt (-1) = nI n := by
  rw [show Int32.ofInt (-1) = -(1 : Int32) from by decide, ← Int32.sub_eq_add_neg]
  exact nI_pred n
/-- behind the last of them none lies around i -/
theorem m_cnt_pos {ab : Nat → Int32} {i n : Nat} : ∀ (k m left : Nat), n - m ≤ k → m ≤ n → m_cnt ab i m + left < m_cnt ab i n → m < n := by
  intro k m left h1 h2 h3
  by_cases hm : m < n
  · exact hm
  · have : m = n := by omega
    subst this
    omega
theorem m_partLoop {j k0 : Nat} (hG : m_G e h q q8 gb F tp nn cap R A) (hj : j < nn) : ∀ (K m left : Nat), nn - m < K → m ≤ nn → m_cnt (m_ab A) j m + left < m_cnt (m_ab A) j nn → j < m → xT e d 42 46 [(4, .int (nI m)), (3, .int (nI left)), (0, .ref q), (1, .int (nI j)), (2, .int (nI k0))] [] h (fun o h' => ∃ v, o = .inl v ∧ (∃ z : Int32, v = some (.int z)) ∧ h' = h) := by
  have hM : (x_mt e.1)[42]? = some xM42 := rfl
  have hq := hG.cell
  have hl := hG.len
  have f2 := hG.f2
  have f14 := hG.f14
  obtain ⟨-, -, ⟨-, ⟨z3, f3⟩, -⟩, ⟨-, ⟨g0, g1, g2, g3, g4, g5⟩, ⟨r0, r1, r2, r3, r4, r5⟩, -, ⟨cn1, cn2, cn3⟩⟩, hnd, hct, n8, c8, -⟩ := id hG
  intro K
  induction K with
  | zero => intro m left m1; omega
  | succ K ih =>
    intro m left m1 m2 m3 m4
    have hmn : m < nn := m_cnt_pos (nn - m) m left (Nat.le_refl _) m2 m3
    refine xT.s1 hM rfl rfl ?_
    refine xT.s2 hM rfl rfl (x2_get rfl (Or.inl rfl) hq g4) ?_
    refine xT.s1 hM rfl rfl ?_
    refine xT.iald hM rfl r4 (by omega) (by omega) ?_
    refine xT.s1 hM rfl rfl ?_
    refine xT.s1 hM rfl rfl ?_
    refine xT.br (fun c1 => ?_) (fun c1 => ?_)
    · refine xT.s1 hM rfl rfl ?_
      refine xT.s1 hM rfl rfl ?_
      refine xT.br (fun b3 => ?_) (fun b3 => ?_)
      · refine xT.s1 hM rfl rfl ?_
        exact xT.ret hM rfl rfl rfl rfl (⟨_, rfl, ⟨_, rfl⟩, rfl⟩)
      · refine xT.s1 hM rfl rfl ?_
        refine xT.s2 hM rfl rfl (x2_get rfl (Or.inl rfl) hq g4) ?_
        refine xT.s1 hM rfl rfl ?_
        refine xT.iald hM rfl r4 (by omega) (by omega) ?_
        refine xT.s1 hM rfl rfl ?_
        refine xT.s1 hM rfl rfl ?_
        refine xT.br (fun c2 => ?_) (fun c2 => ?_)
        · have es : m_cnt (m_ab A) j (m + 1) = m_cnt (m_ab A) j m + (if j < m ∧ m_ab A m = nI j then 1 else 0) := rfl
          rw [if_pos ⟨by omega, c1⟩] at es
          have hl0 : 0 < left := Nat.pos_of_ne_zero (fun z => b3 (by rw [z]; decide))
          obtain ⟨lf, rfl⟩ : ∃ lf, left = lf + 1 := ⟨left - 1, by omega⟩
          refine xT.s1 hM rfl rfl ?_
          rw [x_dec]
          refine xT.s1 hM rfl rfl ?_
          rw [show nI m + Int32.ofInt 1 = nI (m + 1) from nI_add m 1]
          refine xT.s1 hM rfl rfl ?_
          exact xT.weak (L := [(4, .int (nI (m + 1))), (3, .int (nI lf)), (0, .ref q), (1, .int (nI j)), (2, .int (nI k0))]) ⟨by simp [ab_put1, x_ci, x_cr, x_cf, x_cn, x_cl2], by simp [ab_put1, x_ci, x_cr, x_cf, x_cn, x_cl2]⟩ (ih (m + 1) lf (by omega) (by omega) (by omega) (by omega))
        · exact absurd c1 c2
    · refine xT.s1 hM rfl rfl ?_
      refine xT.s2 hM rfl rfl (x2_get rfl (Or.inl rfl) hq g4) ?_
      refine xT.s1 hM rfl rfl ?_
      refine xT.iald hM rfl r4 (by omega) (by omega) ?_
      refine xT.s1 hM rfl rfl ?_
      refine xT.s1 hM rfl rfl ?_
      refine xT.br (fun c2 => ?_) (fun c2 => ?_)
      · exact absurd c2 c1
      · have es : m_cnt (m_ab A) j (m + 1) = m_cnt (m_ab A) j m + (if j < m ∧ m_ab A m = nI j then 1 else 0) := rfl
        rw [if_neg (fun z => c1 z.2)] at es
        refine xT.s1 hM rfl rfl ?_
        rw [show nI m + Int32.ofInt 1 = nI (m + 1) from nI_add m 1]
        refine xT.s1 hM rfl rfl ?_
        exact xT.weak (L := [(4, .int (nI (m + 1))), (3, .int (nI left)), (0, .ref q), (1, .int (nI j)), (2, .int (nI k0))]) ⟨by simp [ab_put1, x_ci, x_cr, x_cf, x_cn, x_cl2], by simp [ab_put1, x_ci, x_cr, x_cf, x_cn, x_cl2]⟩ (ih (m + 1) left (by omega) (by omega) (by omega) (by omega))
theorem m_part {c w : Int32} (hG : m_G e h q q8 gb F tp nn cap R A) : xT e (d + 1) 42 0 [(0, .ref q), (1, .int c), (2, .int w)] [] h (fun o h' => ∃ v, o = .inl v ∧ (∃ z : Int32, v = some (.int z)) ∧ ∃ F', m_G e h' q q8 gb F' tp nn cap R A ∧ (∀ k, k ≠ q → h'[k]? = h[k]?) ∧ h'.length = h.length ∧ ab_sz h' = ab_sz h) := by
  have hM : (x_mt e.1)[42]? = some xM42 := rfl
  have hq := hG.cell
  have hl := hG.len
  have f2 := hG.f2
  have f14 := hG.f14
  obtain ⟨-, -, ⟨-, ⟨z3, f3⟩, -⟩, ⟨-, ⟨g0, g1, g2, g3, g4, g5⟩, ⟨r0, r1, r2, r3, r4, r5⟩, -, ⟨cn1, cn2, cn3⟩⟩, hnd, hct, n8, c8, -⟩ := id hG
  refine xT.s1 hM rfl rfl ?_
  refine xT.s1 hM rfl rfl ?_
  refine xT.put hM rfl rfl hq (Or.inl rfl) (by rw [hl]; decide) (rfl) (Or.inl rfl) (fun h_1 F_1 eF eh up1 fb fo fl => ?_)
  replace hG := hG.put up1 fl (by decide) fb fo
  have hq := hG.cell
  have hl := hG.len
  have f2 := hG.f2
  have f14 := hG.f14
  obtain ⟨-, -, ⟨-, ⟨z3, f3⟩, -⟩, ⟨-, ⟨g0, g1, g2, g3, g4, g5⟩, ⟨r0, r1, r2, r3, r4, r5⟩, -, ⟨cn1, cn2, cn3⟩⟩, hnd, hct, n8, c8, -⟩ := id hG
  refine xT.s1 hM rfl rfl ?_
  refine xT.s1 hM rfl rfl ?_
  refine xT.go hM rfl rfl rfl rfl rfl rfl (xc_virt rfl rfl rfl hq ⟨rfl, Nat.le_of_ble_eq_true rfl, rfl, Or.inl rfl⟩) rfl ⟨Nat.le_of_ble_eq_true rfl, Nat.le_of_ble_eq_true rfl, by decide⟩ (m_out hG) (fun v h2 hv => ?_)
  obtain ⟨⟨b, rfl, hb⟩, hh2⟩ := hv
  subst h2
  refine xT.s1 hM rfl rfl ?_
  refine xT.br (fun b0 => ?_) (fun b0 => ?_)
  · obtain ⟨j, hj, rfl⟩ := hb b0
    obtain ⟨cn, y1, y2, y3⟩ := hct j hj
    refine xT.s1 hM rfl rfl ?_
    refine xT.s1 hM rfl rfl ?_
    refine xT.br (fun b1 => ?_) (fun b1 => ?_)
    · refine xT.s1 hM rfl rfl ?_
      refine xT.s1 hM rfl rfl ?_
      refine xT.go hM rfl rfl rfl rfl rfl rfl (xc_virt rfl rfl rfl hq ⟨rfl, Nat.le_of_ble_eq_true rfl, rfl, Or.inl rfl⟩) rfl ⟨Nat.le_of_ble_eq_true rfl, Nat.le_of_ble_eq_true rfl, by decide⟩ (m_fail hG) (fun v h2 hv => ?_)
      obtain ⟨rfl, F', hG', y1, y2, y3, y4⟩ := hv
      exact xT.ret hM rfl rfl rfl rfl (⟨_, rfl, ⟨_, rfl⟩, F', hG', fun k hk => (y1 k hk).trans (up1.2.1 k hk), y2.trans up1.2.2.1, y3.trans up1.2.2.2⟩)
    · refine xT.s1 hM rfl rfl ?_
      refine xT.s1 hM rfl rfl ?_
      refine xT.s2 hM rfl rfl (x2_get rfl (Or.inl rfl) hq g3) ?_
      refine xT.s1 hM rfl rfl ?_
      refine xT.iald hM rfl r3 (by omega) (by omega) ?_
      rw [y1]
      refine xT.s1 hM rfl rfl ?_
      refine xT.br (fun b2 => ?_) (fun b2 => ?_)
      · obtain ⟨k0, hk0, rfl⟩ := nI_of b1
        have hkc : k0 < cn := (nI_ltI hk0 (by omega)).mp b2
        refine xT.s1 hM rfl rfl ?_
        refine xT.s1 hM rfl rfl ?_
        refine xT.s1 hM rfl rfl ?_
        refine xT.s1 hM rfl rfl ?_
        refine xT.s1 hM rfl rfl ?_
        rw [show nI j + Int32.ofInt 1 = nI (j + 1) from nI_add j 1]
        refine xT.s1 hM rfl rfl ?_
        have z0 : m_cnt (m_ab A) j (j + 1) = 0 := by
          have go : ∀ n, n ≤ j + 1 → m_cnt (m_ab A) j n = 0 := by
            intro n
            induction n with
            | zero => intro _; rfl
            | succ n ih => intro hn; show m_cnt (m_ab A) j n + _ = 0; rw [ih (by omega), if_neg (fun z => by omega)]
          exact go _ (Nat.le_refl _)
        refine ((m_partLoop hG hj (nn + 1) (j + 1) k0 (by omega) (by omega) (by omega) (by omega)).mono (fun o h' ho => ?_))
        obtain ⟨v, w1, w2, w3⟩ := ho
        subst w3
        exact ⟨v, w1, w2, F_1, hG, up1.2.1, up1.2.2.1, up1.2.2.2⟩
      · refine xT.s1 hM rfl rfl ?_
        refine xT.s1 hM rfl rfl ?_
        refine xT.go hM rfl rfl rfl rfl rfl rfl (xc_virt rfl rfl rfl hq ⟨rfl, Nat.le_of_ble_eq_true rfl, rfl, Or.inl rfl⟩) rfl ⟨Nat.le_of_ble_eq_true rfl, Nat.le_of_ble_eq_true rfl, by decide⟩ (m_fail hG) (fun v h2 hv => ?_)
        obtain ⟨rfl, F', hG', y1, y2, y3, y4⟩ := hv
        exact xT.ret hM rfl rfl rfl rfl (⟨_, rfl, ⟨_, rfl⟩, F', hG', fun k hk => (y1 k hk).trans (up1.2.1 k hk), y2.trans up1.2.2.1, y3.trans up1.2.2.2⟩)
  · refine xT.s1 hM rfl rfl ?_
    refine xT.s1 hM rfl rfl ?_
    refine xT.go hM rfl rfl rfl rfl rfl rfl (xc_virt rfl rfl rfl hq ⟨rfl, Nat.le_of_ble_eq_true rfl, rfl, Or.inl rfl⟩) rfl ⟨Nat.le_of_ble_eq_true rfl, Nat.le_of_ble_eq_true rfl, by decide⟩ (m_fail hG) (fun v h2 hv => ?_)
    obtain ⟨rfl, F', hG', y1, y2, y3, y4⟩ := hv
    exact xT.ret hM rfl rfl rfl rfl (⟨_, rfl, ⟨_, rfl⟩, F', hG', fun k hk => (y1 k hk).trans (up1.2.1 k hk), y2.trans up1.2.2.1, y3.trans up1.2.2.2⟩)
theorem m_same {c w : Int32} (hG : m_G e h q q8 gb F tp nn cap R A) : xT e (d + 2) 45 0 [(0, .ref q), (1, .int c), (2, .int w)] [] h (fun o h' => ∃ v, o = .inl v ∧ (∃ z : Int32, v = some (.int z)) ∧ ∃ F', m_G e h' q q8 gb F' tp nn cap R A ∧ (∀ k, k ≠ q → h'[k]? = h[k]?) ∧ h'.length = h.length ∧ ab_sz h' = ab_sz h) := by
  have hM : (x_mt e.1)[45]? = some xM45 := rfl
  have hq := hG.cell
  have hl := hG.len
  have f2 := hG.f2
  have f14 := hG.f14
  obtain ⟨-, -, ⟨-, ⟨z3, f3⟩, -⟩, ⟨-, ⟨g0, g1, g2, g3, g4, g5⟩, ⟨r0, r1, r2, r3, r4, r5⟩, -, ⟨cn1, cn2, cn3⟩⟩, hnd, hct, n8, c8, -⟩ := id hG
  refine xT.s1 hM rfl rfl ?_
  refine xT.s1 hM rfl rfl ?_
  refine xT.put hM rfl rfl hq (Or.inl rfl) (by rw [hl]; decide) (rfl) (Or.inl rfl) (fun h_1 F_1 eF eh up1 fb fo fl => ?_)
  replace hG := hG.put up1 fl (by decide) fb fo
  have hq := hG.cell
  have hl := hG.len
  have f2 := hG.f2
  have f14 := hG.f14
  obtain ⟨-, -, ⟨-, ⟨z3, f3⟩, -⟩, ⟨-, ⟨g0, g1, g2, g3, g4, g5⟩, ⟨r0, r1, r2, r3, r4, r5⟩, -, ⟨cn1, cn2, cn3⟩⟩, hnd, hct, n8, c8, -⟩ := id hG
  refine xT.s1 hM rfl rfl ?_
  refine xT.s1 hM rfl rfl ?_
  refine xT.go hM rfl rfl rfl rfl rfl rfl (xc_virt rfl rfl rfl hq ⟨rfl, Nat.le_of_ble_eq_true rfl, rfl, Or.inl rfl⟩) rfl ⟨Nat.le_of_ble_eq_true rfl, Nat.le_of_ble_eq_true rfl, by decide⟩ (m_out hG) (fun v h2 hv => ?_)
  obtain ⟨⟨b, rfl, hb⟩, hh2⟩ := hv
  subst h2
  refine xT.s1 hM rfl rfl ?_
  refine xT.br (fun b0 => ?_) (fun b0 => ?_)
  · obtain ⟨j, hj, rfl⟩ := hb b0
    refine xT.s1 hM rfl rfl ?_
    refine xT.s1 hM rfl rfl ?_
    refine xT.go hM rfl rfl rfl rfl rfl rfl (xc_virt rfl rfl rfl hq ⟨rfl, Nat.le_of_ble_eq_true rfl, rfl, Or.inl rfl⟩) rfl ⟨Nat.le_of_ble_eq_true rfl, Nat.le_of_ble_eq_true rfl, by decide⟩ (m_out hG) (fun v h2 hv => ?_)
    obtain ⟨⟨b, rfl, hb⟩, hh2⟩ := hv
    subst h2
    refine xT.s1 hM rfl rfl ?_
    refine xT.br (fun c0 => ?_) (fun c0 => ?_)
    · obtain ⟨i, hi, rfl⟩ := hb c0
      have nj := (hnd j hj).2
      have ni := (hnd i hi).2
      refine xT.s1 hM rfl rfl ?_
      refine xT.s2 hM rfl rfl (x2_get rfl (Or.inl rfl) hq g5) ?_
      refine xT.s1 hM rfl rfl ?_
      refine xT.aald hM rfl r5 rfl (by omega) (by omega) ?_
      rcases nj with nj | ⟨mj, nj⟩
      · rw [nj]
        refine xT.s1 hM rfl rfl ?_
        refine xT.s1 hM rfl rfl ?_
        refine xT.s1 hM rfl rfl ?_
        refine xT.go hM rfl rfl rfl rfl rfl rfl (xc_virt rfl rfl rfl hq ⟨rfl, Nat.le_of_ble_eq_true rfl, rfl, Or.inl rfl⟩) rfl ⟨Nat.le_of_ble_eq_true rfl, Nat.le_of_ble_eq_true rfl, by decide⟩ (m_fail hG) (fun v h2 hv => ?_)
        obtain ⟨rfl, F', hG', y1, y2, y3, y4⟩ := hv
        refine xT.s1 hM rfl rfl ?_
        refine xT.brT (by decide) ?_
        refine xT.s1 hM rfl rfl ?_
        exact xT.ret hM rfl rfl rfl rfl (⟨_, rfl, ⟨_, rfl⟩, F', hG', fun k hk => (y1 k hk).trans (up1.2.1 k hk), y2.trans up1.2.2.1, y3.trans up1.2.2.2⟩)
      have goj : xT e (d + 2) 45 44 [(0, .ref q), (1, .int (nI j)), (2, .int (nI i))] [] h_1 (fun o h' => ∃ v, o = .inl v ∧ (∃ z : Int32, v = some (.int z)) ∧ ∃ F', m_G e h' q q8 gb F' tp nn cap R A ∧ (∀ k, k ≠ q → h'[k]? = h[k]?) ∧ h'.length = h.length ∧ ab_sz h' = ab_sz h) := by
        refine xT.s1 hM rfl rfl ?_
        refine xT.s2 hM rfl rfl (x2_get rfl (Or.inl rfl) hq g5) ?_
        refine xT.s1 hM rfl rfl ?_
        refine xT.aald hM rfl r5 rfl (by omega) (by omega) ?_
        rcases ni with ni | ⟨mi, ni⟩
        · rw [ni]
          refine xT.s1 hM rfl rfl ?_
          refine xT.s1 hM rfl rfl ?_
          refine xT.s1 hM rfl rfl ?_
          refine xT.go hM rfl rfl rfl rfl rfl rfl (xc_virt rfl rfl rfl hq ⟨rfl, Nat.le_of_ble_eq_true rfl, rfl, Or.inl rfl⟩) rfl ⟨Nat.le_of_ble_eq_true rfl, Nat.le_of_ble_eq_true rfl, by decide⟩ (m_fail hG) (fun v h2 hv => ?_)
          obtain ⟨rfl, F', hG', y1, y2, y3, y4⟩ := hv
          refine xT.s1 hM rfl rfl ?_
          refine xT.brT (by decide) ?_
          refine xT.s1 hM rfl rfl ?_
          exact xT.ret hM rfl rfl rfl rfl (⟨_, rfl, ⟨_, rfl⟩, F', hG', fun k hk => (y1 k hk).trans (up1.2.1 k hk), y2.trans up1.2.2.1, y3.trans up1.2.2.2⟩)
        have goi : xT e (d + 2) 45 67 [(0, .ref q), (1, .int (nI j)), (2, .int (nI i))] [] h_1 (fun o h' => ∃ v, o = .inl v ∧ (∃ z : Int32, v = some (.int z)) ∧ ∃ F', m_G e h' q q8 gb F' tp nn cap R A ∧ (∀ k, k ≠ q → h'[k]? = h[k]?) ∧ h'.length = h.length ∧ ab_sz h' = ab_sz h) := by
          refine xT.s1 hM rfl rfl ?_
          refine xT.s2 hM rfl rfl (x2_get rfl (Or.inl rfl) hq g5) ?_
          refine xT.s1 hM rfl rfl ?_
          refine xT.aald hM rfl r5 rfl (by omega) (by omega) ?_
          refine xT.s1 hM rfl rfl ?_
          refine xT.s2 hM rfl rfl (x2_get rfl (Or.inl rfl) hq g5) ?_
          refine xT.s1 hM rfl rfl ?_
          refine xT.aald hM rfl r5 rfl (by omega) (by omega) ?_
          obtain ⟨Fx, rx, gx, kk, -⟩ := id nj
          refine xT.go hM rfl rfl rfl rfl rfl rfl (xc_sv rfl rfl rfl kk ⟨rfl, Nat.le_of_ble_eq_true rfl, rfl⟩) rfl ⟨Nat.le_of_ble_eq_true rfl, by show (lg_sl [m_nb A j, m_nb A i]).length ≤ _; rw [nj.rv.sl2 ni.rv.cat]; decide, by decide⟩ (xT.cast (nj.rv.lv2 _) (j_equals nj ni)) (fun v h2 hv => ?_)
          obtain ⟨hv, hh2⟩ := hv
          subst h2
          rcases hv with rfl | rfl
          · exact xT.ret hM rfl rfl rfl rfl (⟨_, rfl, ⟨_, rfl⟩, F_1, hG, up1.2.1, up1.2.2.1, up1.2.2.2⟩)
          · exact xT.ret hM rfl rfl rfl rfl (⟨_, rfl, ⟨_, rfl⟩, F_1, hG, up1.2.1, up1.2.2.1, up1.2.2.2⟩)
        rcases ni.rv with ⟨x, ex⟩ | ⟨x, ex⟩ <;> (rw [ex]; exact xT.s1 hM rfl rfl goi)
      rcases nj.rv with ⟨x, ex⟩ | ⟨x, ex⟩ <;> (rw [ex]; exact xT.s1 hM rfl rfl goj)
    · refine xT.s1 hM rfl rfl ?_
      refine xT.s1 hM rfl rfl ?_
      refine xT.go hM rfl rfl rfl rfl rfl rfl (xc_virt rfl rfl rfl hq ⟨rfl, Nat.le_of_ble_eq_true rfl, rfl, Or.inl rfl⟩) rfl ⟨Nat.le_of_ble_eq_true rfl, Nat.le_of_ble_eq_true rfl, by decide⟩ (m_fail hG) (fun v h2 hv => ?_)
      obtain ⟨rfl, F', hG', y1, y2, y3, y4⟩ := hv
      refine xT.s1 hM rfl rfl ?_
      refine xT.brT (by decide) ?_
      refine xT.s1 hM rfl rfl ?_
      exact xT.ret hM rfl rfl rfl rfl (⟨_, rfl, ⟨_, rfl⟩, F', hG', fun k hk => (y1 k hk).trans (up1.2.1 k hk), y2.trans up1.2.2.1, y3.trans up1.2.2.2⟩)
  · refine xT.s1 hM rfl rfl ?_
    refine xT.s1 hM rfl rfl ?_
    refine xT.go hM rfl rfl rfl rfl rfl rfl (xc_virt rfl rfl rfl hq ⟨rfl, Nat.le_of_ble_eq_true rfl, rfl, Or.inl rfl⟩) rfl ⟨Nat.le_of_ble_eq_true rfl, Nat.le_of_ble_eq_true rfl, by decide⟩ (m_fail hG) (fun v h2 hv => ?_)
    obtain ⟨rfl, F', hG', y1, y2, y3, y4⟩ := hv
    refine xT.s1 hM rfl rfl ?_
    refine xT.brT (by decide) ?_
    refine xT.s1 hM rfl rfl ?_
    exact xT.ret hM rfl rfl rfl rfl (⟨_, rfl, ⟨_, rfl⟩, F', hG', fun k hk => (y1 k hk).trans (up1.2.1 k hk), y2.trans up1.2.2.1, y3.trans up1.2.2.2⟩)
end XMD
