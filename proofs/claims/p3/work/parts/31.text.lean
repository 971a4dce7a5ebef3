/-! the reference: text -/
section XTX
variable {e : xE} {d q q8 tp fr : Nat} {gb : Nat → Int32} {h0 : ab_H} {F0 : List Value} {t : Int32} {w : Value}
theorem m_textLoop {sb a b at0 : Nat} (hab : a ≤ b) (hb0 : b ≤ tp) (ht0 : tp ≤ 4096) (hr : x_rm e h0) (hq0 : h0[q]? = some (.inr (3, F0))) (hql : q < h0.length) (h8l : q8 < h0.length) : ∀ (m k c : Nat) (h : ab_H) (qv : Nat) (fs : List Value) (n : Nat) (f : Nat → Int32), b - k < m → a ≤ k → k ≤ b → c = k - a → j_SI h0 h q sb qv fs n c f → m_X h0 h q q8 gb F0 F0 tp fr at0 t w → xT e (d + 6) 18 11 [(4, .int (nI k)), (3, .ref sb), (0, .ref q), (1, .int (nI a)), (2, .int (nI b))] [] h (fun o h' => ∃ v, o = .inl v ∧ ∃ s, v = some (.ref s) ∧ j_str e h' (.ref s) (b - a) ∧ (∀ (k : Nat) (x : ab_E), h0[k]? = some x → h'[k]? = some x) ∧ 8 * h'.length ≤ 8 * h0.length + 32 + (b - a) ∧ h0.length ≤ h'.length ∧ ab_sz h' ≤ ab_sz h0 + 24 + 5 * (b - a)) := by
  have hM : (x_mt e.1)[18]? = some xM18 := rfl
  intro m
  induction m with
  | zero => intro k c h qv fs n f m1; omega
  | succ m ih =>
    intro k c h qv fs n f m1 m2 m3 m4 hI hX
    obtain ⟨⟨hq, hl, f1, f2, f6, f7, ⟨z8, f8⟩, ⟨n9, f9⟩, f10, f11, h8, htp⟩, rest, fr0⟩ := id hX
    refine xT.s1 hM rfl rfl ?_
    refine xT.s1 hM rfl rfl ?_
    refine xT.s1 hM rfl rfl ?_
    refine xT.br (fun hb => ?_) (fun hb => ?_)
    · have ek : c = b - a := by
        by_cases z : k < b
        · exact absurd hb (nI_ge z (by omega))
        · omega
      subst ek
      refine xT.s1 hM rfl rfl ?_
      refine xT.go hM rfl rfl rfl rfl rfl rfl (xc_virt rfl rfl rfl hI.1.1 ⟨rfl, Nat.le_of_ble_eq_true rfl, rfl, Or.inl rfl⟩) rfl ⟨Nat.le_of_ble_eq_true rfl, Nat.le_of_ble_eq_true rfl, by decide⟩ (j_tsI hI (by omega) hr) (fun v h2 hv => ?_)
      obtain ⟨s, rfl, s1, s2, s3, s4, s5⟩ := hv
      exact xT.ret hM rfl rfl rfl rfl (⟨_, rfl, s, rfl, s1, fun k x hk => by
            by_cases hkq : k = q
            · subst hkq; rw [hq0] at hk; cases hk; exact s2 _ _ hX.1.1
            · exact s2 _ _ (hX.2.2 k x hk hkq), s3, s4, s5⟩)
    · have hkb : k < b := Nat.lt_of_not_le (fun z => hb (nI_le z (by omega)))
      refine xT.s1 hM rfl rfl ?_
      refine xT.s1 hM rfl rfl ?_
      refine xT.s1 hM rfl rfl ?_
      refine xT.go hM rfl rfl rfl rfl rfl rfl (xc_virt rfl rfl rfl hq ⟨rfl, Nat.le_of_ble_eq_true rfl, rfl, Or.inl rfl⟩) rfl ⟨Nat.le_of_ble_eq_true rfl, Nat.le_of_ble_eq_true rfl, by decide⟩ (m_byteAt hX.S (k := k) (by omega)) (fun v h2 hv => ?_)
      obtain ⟨rfl, hh2⟩ := hv
      subst h2
      refine xT.s1 hM rfl rfl ?_
      refine xT.go hM rfl rfl rfl rfl rfl rfl (xc_virt rfl rfl rfl hI.1.1 ⟨rfl, Nat.le_of_ble_eq_true rfl, rfl, Or.inl rfl⟩) rfl ⟨Nat.le_of_ble_eq_true rfl, Nat.le_of_ble_eq_true rfl, by decide⟩ (j_appI hI (by omega) hr (x_by255 (by omega))) (fun v h2 hv => ?_)
      obtain ⟨rfl, qv', fs', n', f', hI', low⟩ := hv
      refine xT.s1 hM rfl rfl ?_
      refine xT.s1 hM rfl rfl ?_
      rw [show nI k + Int32.ofInt 1 = nI (k + 1) from nI_add k 1]
      refine xT.s1 hM rfl rfl ?_
      exact ih (k + 1) (c + 1) h2 qv' fs' n' f' (by omega) (by omega) (by omega) (by omega) hI' (hX.low hql h8l (Nat.le_refl _) low)
theorem m_text {a b at0 : Nat} (hX : m_X h0 h0 q q8 gb F0 F0 tp fr at0 t w) (hab : a ≤ b) (hb0 : b ≤ tp) (hr : x_rm e h0) : xT e (d + 6) 18 0 [(0, .ref q), (1, .int (nI a)), (2, .int (nI b))] [] h0 (fun o h' => ∃ v, o = .inl v ∧ ∃ s, v = some (.ref s) ∧ j_str e h' (.ref s) (b - a) ∧ (∀ (k : Nat) (x : ab_E), h0[k]? = some x → h'[k]? = some x) ∧ 8 * h'.length ≤ 8 * h0.length + 32 + (b - a) ∧ h0.length ≤ h'.length ∧ ab_sz h' ≤ ab_sz h0 + 24 + 5 * (b - a)) := by
  have hM : (x_mt e.1)[18]? = some xM18 := rfl
  obtain ⟨⟨hq, hl, f1, f2, f6, f7, ⟨z8, f8⟩, ⟨n9, f9⟩, f10, f11, h8, htp⟩, rest, fr0⟩ := id hX
  have hql := x_lt hq
  have h8l := x_lt h8
  refine xT.new hM rfl rfl rfl (by have := hr.1; omega) (by have := hr.2; show ab_sz h0 + 4 ≤ _; omega) (fun h1 e1 w1 => ?_)
  have s1 : ab_sz h1 = ab_sz h0 + 4 := w1.2.2.2
  refine xT.s1 hM rfl rfl ?_
  refine xT.go hM rfl rfl rfl rfl rfl rfl (xc_init rfl rfl rfl ⟨rfl, Nat.le_of_ble_eq_true rfl, rfl, rfl, rfl⟩) rfl ⟨Nat.le_of_ble_eq_true rfl, Nat.le_of_ble_eq_true rfl, by decide⟩ (j_sbInit w1.1 (by have := hr.1; rw [w1.2.2.1]; omega) (by have := hr.2; rw [s1]; omega)) (fun v h2 hv => ?_)
  obtain ⟨rfl, F, i1, i2, i3, i4⟩ := hv
  have hI := j_SI.of (qm := q) (Or.inr trivial) w1 rfl i1 i2 i3 i4
  have hX2 : m_X h0 h2 q q8 gb F0 F0 tp fr at0 t w := hX.low hql h8l (Nat.le_refl _) (fun k x hk hl => i2 k x (w1.2.1 _ _ hk) (by omega))
  refine xT.s1 hM rfl rfl ?_
  refine xT.s1 hM rfl rfl ?_
  refine xT.s1 hM rfl rfl ?_
  exact m_textLoop hab hb0 htp hr hq hql h8l (b - a + 1) a 0 h2 _ _ _ _ (by omega) (Nat.le_refl _) hab (by omega) hI hX2
end XTX
