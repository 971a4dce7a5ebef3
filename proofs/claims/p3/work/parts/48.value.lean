/-! the reference: braces and value -/
section XBV
variable {e : xE} {d q q8 tp N : Nat} {gb : Nat → Int32}
theorem m_bracesS (hE : e.1 = .null ∨ ∃ w, e.1 = .float w) (hc : m_ws e) (HV : m_VC e q q8 gb tp N) : m_BC e q q8 gb tp N := by
  intro d o fr a F t w h p hP hr1 hr2 hr3 ho hN
  have hM : (x_mt e.1)[32]? = some xM32 := rfl
  have hps := hP.ps
  have hfr := hP.frl
  have hres := m_res_le hP
  refine xT.s1 hM rfl rfl ?_
  refine xT.s2 hM rfl rfl rfl ?_
  refine xT.go hM rfl rfl rfl rfl rfl rfl (xc_virt rfl rfl rfl hP.cell ⟨rfl, Nat.le_of_ble_eq_true rfl, rfl, Or.inl rfl⟩) rfl ⟨Nat.le_of_ble_eq_true rfl, Nat.le_of_ble_eq_true rfl, by decide⟩ (m_is hP (hc _ (by simp))) (fun v n2 hv => ?_)
  obtain ⟨b, rfl, hb1, hb2, hh2⟩ := hv
  subst n2
  refine xT.s1 hM rfl rfl ?_
  refine xT.br (fun b0 => ?_) (fun b0 => ?_)
  · refine m_br1 hE hc hP ⟨by omega, by omega⟩ (fun nm od h1 F1 hP1 hN1 hnm hod => ?_)
    have c1 := hN1.2.2.1
    have c2 := hN1.2.2.2.1
    have c3 := hN1.2.2.2.2
    refine xT.new hM rfl rfl rfl (by omega) (by show ab_sz _ + 9 ≤ _; omega) (fun n1 en w1 => ?_)
    have l1 := w1.2.2.1
    have s1 : ab_sz n1 = ab_sz h1 + 9 := w1.2.2.2
    have fin : ∀ k, (k = 10 ∨ k = 11 ∨ k = 12) → xT e (d + 2 * (61 - o) + 13) 32 157 [(10, .int od), (9, .int nm), (0, .ref q), (1, .int p)] [.int (nI k), .ref h1.length, .ref h1.length] n1 (x_Q (m_BN e h q q8 gb F tp fr a t o) (m_BE e h q q8 gb F tp fr a t)) := by
      intro k hk
      refine xT.s1 hM rfl rfl ?_
      refine xT.go hM rfl rfl rfl rfl rfl rfl (xc_init rfl rfl rfl ⟨rfl, Nat.le_of_ble_eq_true rfl, rfl, rfl, rfl⟩) rfl ⟨Nat.le_of_ble_eq_true rfl, Nat.le_of_ble_eq_true rfl, by decide⟩ (m_vinit w1.1 (by omega) (by omega)) (fun v n2 hv => ?_)
      obtain ⟨rfl, G, hV, g0, g1, g4, g3, fr2, l2, s2⟩ := hv
      have ext2 : ∀ (k : Nat) (x : ab_E), h1[k]? = some x → n2[k]? = some x := fun k x hk => fr2 k x (w1.2.1 _ _ hk) (by have := x_lt hk; omega)
      have hP2 := hP1.ext ext2
      have hN2 : m_N h q F (33 * m_res gb tp a + 32) (29 * m_res gb tp a + 15) n2 F1 := ⟨hN1.1, fun k x hk hn => ext2 k x (hN1.2.1 k x hk hn), by omega, by omega, by omega⟩
      have hW : m_W (60 - o + 1) e n2 h.length n2.length h1.length G n1.length (n1.length + 1) (n1.length + 2) 0 2 (fun _ => .null) (fun _ => .null) (fun _ => 0) 1 := ⟨⟨hV, ⟨k, g0, by omega, fun z => by omega, .null, g4, Or.inl rfl, fun z => by omega⟩, ⟨_, g1⟩, ⟨_, g3⟩, ⟨by omega, by omega⟩, ⟨by omega, by omega⟩, ⟨by omega, by omega⟩, ⟨by omega, by omega⟩⟩, fun _ => 0, fun i hi => absurd hi (Nat.not_lt_zero i), Nat.le_refl _⟩
      have hL : m_LI e h q q8 gb F tp fr a t o h1.length k n2 F1 fr a t w := ⟨hP2, ⟨by omega, by omega⟩, G, _, _, _, 0, 2, _, _, _, 1, _, _, hW, g0, Or.inl rfl, by omega, by omega, by omega, Nat.le_refl _, Nat.le_refl _, hN2, Or.inl ⟨rfl, rfl, rfl, rfl, rfl, Nat.le_refl _, Nat.le_refl _⟩⟩
      refine xT.s1 hM rfl rfl ?_
      refine xT.s1 hM rfl rfl ?_
      refine xT.s1 hM rfl rfl ?_
      refine xT.br (fun bo => ?_) (fun bo => ?_)
      · exact xT.weak (L := [(11, .ref h1.length), (9, .int nm), (0, .ref q), (1, .int p)]) (L' := [(11, .ref h1.length), (10, .int od), (9, .int nm), (0, .ref q), (1, .int p)]) ⟨by simp, by simp⟩ (m_brVal hE hc hP hr1 hr2 hr3 ho HV hN (tp + 1) fr a F1 t w n2 hL (by omega))
      · exact m_brOid hE hc hP hr1 hr2 hr3 ho (hod bo) (tp + 1) fr a F1 t w n2 hL (by omega)
    refine xT.s1 hM rfl rfl ?_
    refine xT.s1 hM rfl rfl ?_
    refine xT.s1 hM rfl rfl ?_
    refine xT.br (fun bp => ?_) (fun bp => ?_)
    · refine xT.s1 hM rfl rfl ?_
      refine xT.s1 hM rfl rfl ?_
      refine xT.br (fun bq => ?_) (fun bq => ?_)
      · refine xT.s1 hM rfl rfl ?_
        exact fin 10 (by omega)
      · refine xT.s1 hM rfl rfl ?_
        refine xT.s1 hM rfl rfl ?_
        exact fin 12 (by omega)
    · refine xT.s1 hM rfl rfl ?_
      refine xT.s1 hM rfl rfl ?_
      exact fin 11 (by omega)
  · refine xT.new hM rfl rfl rfl (by omega) (by show ab_sz _ + 9 ≤ _; omega) (fun n1 en w1 => ?_)
    have l1 := w1.2.2.1
    have s1 : ab_sz n1 = ab_sz h + 9 := w1.2.2.2
    refine xT.s1 hM rfl rfl ?_
    refine xT.s1 hM rfl rfl ?_
    refine xT.s1 hM rfl rfl ?_
    refine xT.go hM rfl rfl rfl rfl rfl rfl (xc_init rfl rfl rfl ⟨rfl, Nat.le_of_ble_eq_true rfl, rfl, rfl, rfl⟩) rfl ⟨Nat.le_of_ble_eq_true rfl, Nat.le_of_ble_eq_true rfl, by decide⟩ (m_vinit w1.1 (by omega) (by omega)) (fun v n2 hv => ?_)
    obtain ⟨rfl, G, hV, g0, g1, g4, g3, fr2, l2, s2⟩ := hv
    have ext2 : ∀ (k : Nat) (x : ab_E), h[k]? = some x → n2[k]? = some x := fun k x hk => fr2 k x (w1.2.1 _ _ hk) (by have := x_lt hk; omega)
    have hT : m_T (60 - o + 1 + 1) e n2 h.length n2.length h.length 1 := m_T.leaf ⟨hV, ⟨9, g0, by omega, fun z => by omega, .null, g4, Or.inl rfl, fun z => by omega⟩, ⟨_, g1⟩, ⟨_, g3⟩, ⟨by omega, by omega⟩, ⟨by omega, by omega⟩, ⟨by omega, by omega⟩, ⟨by omega, by omega⟩⟩
    exact xT.ret hM rfl rfl rfl rfl (⟨h.length, 1, fr, a, F, t, w, 32, 15, rfl, hP.ext ext2, hT, Nat.le_refl _, by omega, Nat.le_refl _, m_N.ext ext2 (by omega) (by omega) (by omega), by omega, by omega⟩)
theorem m_valueS (hE : e.1 = .null ∨ ∃ w, e.1 = .float w) (hc : m_ws e) (HV : m_VC e q q8 gb tp N) (HB : m_BC e q q8 gb tp N) : m_VC e q q8 gb tp (N + 1) := by
  intro d o fr a F t w h hP hr ho hN
  have hM : (x_mt e.1)[30]? = some xM30 := rfl
  refine xT.s1 hM rfl rfl ?_
  refine xT.s2 hM rfl rfl (x2_get rfl (Or.inl rfl) hP.cell hP.1.1.2.2.2.2.2.1) ?_
  refine xT.s1 hM rfl rfl ?_
  refine xT.s1 hM rfl rfl ?_
  refine xT.s2 hM rfl rfl rfl ?_
  refine xT.go hM rfl rfl rfl rfl rfl rfl (xc_virt rfl rfl rfl hP.cell ⟨rfl, Nat.le_of_ble_eq_true rfl, rfl, Or.inl rfl⟩) rfl ⟨Nat.le_of_ble_eq_true rfl, Nat.le_of_ble_eq_true rfl, by decide⟩ (m_is hP (hc _ (by simp))) (fun v n2 hv => ?_)
  obtain ⟨b, rfl, hb1, hb2, hh2⟩ := hv
  subst n2
  refine xT.s1 hM rfl rfl ?_
  refine xT.br (fun bb1 => ?_) (fun bb1 => ?_)
  · refine xT.s1 hM rfl rfl ?_
    refine xT.s2 hM rfl rfl rfl ?_
    refine xT.go hM rfl rfl rfl rfl rfl rfl (xc_virt rfl rfl rfl hP.cell ⟨rfl, Nat.le_of_ble_eq_true rfl, rfl, Or.inl rfl⟩) rfl ⟨Nat.le_of_ble_eq_true rfl, Nat.le_of_ble_eq_true rfl, by decide⟩ (m_is hP (hc _ (by simp))) (fun v n2 hv => ?_)
    obtain ⟨b, rfl, hb1, hb2, hh2⟩ := hv
    subst n2
    refine xT.s1 hM rfl rfl ?_
    refine xT.br (fun bb2 => ?_) (fun bb2 => ?_)
    · refine xT.s1 hM rfl rfl ?_
      refine xT.s2 hM rfl rfl rfl ?_
      refine xT.go hM rfl rfl rfl rfl rfl rfl (xc_virt rfl rfl rfl hP.cell ⟨rfl, Nat.le_of_ble_eq_true rfl, rfl, Or.inl rfl⟩) rfl ⟨Nat.le_of_ble_eq_true rfl, Nat.le_of_ble_eq_true rfl, by decide⟩ (m_is hP (hc _ (by simp))) (fun v n2 hv => ?_)
      obtain ⟨b, rfl, hb1, hb2, hh2⟩ := hv
      subst n2
      refine xT.s1 hM rfl rfl ?_
      refine xT.br (fun bb3 => ?_) (fun bb3 => ?_)
      · refine xT.s1 hM rfl rfl ?_
        refine xT.s2 hM rfl rfl rfl ?_
        refine xT.go hM rfl rfl rfl rfl rfl rfl (xc_virt rfl rfl rfl hP.cell ⟨rfl, Nat.le_of_ble_eq_true rfl, rfl, Or.inl rfl⟩) rfl ⟨Nat.le_of_ble_eq_true rfl, Nat.le_of_ble_eq_true rfl, by decide⟩ (m_is hP (hc _ (by simp))) (fun v n2 hv => ?_)
        obtain ⟨b, rfl, hb1, hb2, hh2⟩ := hv
        subst n2
        refine xT.s1 hM rfl rfl ?_
        refine xT.br (fun bb4 => ?_) (fun bb4 => ?_)
        · refine xT.s1 hM rfl rfl ?_
          refine xT.s2 hM rfl rfl (x2_get rfl (Or.inl rfl) hP.cell hP.1.1.2.2.2.2.1) ?_
          refine xT.s1 hM rfl rfl ?_
          refine xT.s1 hM rfl rfl ?_
          refine xT.br (fun b5 => ?_) (fun b5 => ?_)
          · exact m_valB hE hc hP hr ho (Or.inl b5)
          · refine xT.s1 hM rfl rfl ?_
            refine xT.s2 hM rfl rfl (x2_get rfl (Or.inl rfl) hP.cell hP.1.1.2.2.2.2.1) ?_
            refine xT.s1 hM rfl rfl ?_
            refine xT.s1 hM rfl rfl ?_
            refine xT.br (fun b7 => ?_) (fun b7 => ?_)
            · exact m_valC hE hc hP hr ho (Or.inl b7)
            · refine xT.s1 hM rfl rfl ?_
              refine xT.s2 hM rfl rfl (x2_get rfl (Or.inl rfl) hP.cell hP.1.1.2.2.2.2.1) ?_
              refine xT.s1 hM rfl rfl ?_
              refine xT.s1 hM rfl rfl ?_
              refine xT.br (fun b8 => ?_) (fun b8 => ?_)
              · exact m_valC hE hc hP hr ho (Or.inr (Or.inl b8))
              · refine xT.s1 hM rfl rfl ?_
                refine xT.s2 hM rfl rfl (x2_get rfl (Or.inl rfl) hP.cell hP.1.1.2.2.2.2.1) ?_
                refine xT.s1 hM rfl rfl ?_
                refine xT.s1 hM rfl rfl ?_
                refine xT.br (fun b6 => ?_) (fun b6 => ?_)
                · exact m_valC hE hc hP hr ho (Or.inr (Or.inr b6))
                · refine xT.s1 hM rfl rfl ?_
                  refine xT.s2 hM rfl rfl (x2_get rfl (Or.inl rfl) hP.cell hP.1.1.2.2.2.2.1) ?_
                  refine xT.s1 hM rfl rfl ?_
                  refine xT.s1 hM rfl rfl ?_
                  refine xT.br (fun b4 => ?_) (fun b4 => ?_)
                  · exact m_valD hE hc hP hr ho HV hN b4
                  · exact m_valE hE hc hP hr ho HB hN
        · have h29 : t = 2 ∨ t = 9 := by
            rcases hb1 with z | z
            · exact absurd z bb4
            · exact hb2 z
          exact m_valB hE hc hP hr ho (Or.inr h29)
      · have h29 : t = 2 ∨ t = 9 := by
          rcases hb1 with z | z
          · exact absurd z bb3
          · exact hb2 z
        exact m_valA hE hc hP hr ho h29
    · have h29 : t = 2 ∨ t = 9 := by
        rcases hb1 with z | z
        · exact absurd z bb2
        · exact hb2 z
      exact m_valA hE hc hP hr ho h29
  · have h29 : t = 2 ∨ t = 9 := by
      rcases hb1 with z | z
      · exact absurd z bb1
      · exact hb2 z
    exact m_valA hE hc hP hr ho h29
/-- value, on every tape -/
theorem m_value (hE : e.1 = .null ∨ ∃ w, e.1 = .float w) : ∀ N, m_VC e q q8 gb tp N ∧ m_BC e q q8 gb tp N := by
  intro N
  induction N with
  | zero => exact ⟨fun d o fr a F t w h _ _ _ hN => absurd hN (Nat.not_lt_zero _), fun d o fr a F t w h p _ _ _ _ _ hN => absurd hN (Nat.not_lt_zero _)⟩
  | succ N ih =>
    have hV := m_valueS hE (m_wsok e) ih.1 ih.2
    exact ⟨hV, m_bracesS hE (m_wsok e) hV⟩
end XBV
