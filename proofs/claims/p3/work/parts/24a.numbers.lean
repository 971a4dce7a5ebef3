/-! the reference: numbers, from its beginning -/
theorem m_numbers {e : xE} {d q q8 tp fr : Nat} {gb : Nat → Int32} {a : Nat} {F : List Value} {h : ab_H} (hS : m_M h q q8 gb F tp fr a) (ha : a ≤ tp) (hfr : fr < 2 ^ 31) : xT e (d + 1) 21 0 [(0, .ref q)] [] h (fun o h' => ∃ v, o = .inl v ∧ v = none ∧ ∃ (a' : Nat) (F' : List Value), a ≤ a' ∧ a' ≤ tp ∧ ¬ x_isD (x_by gb tp a') = true ∧ h' = h.set q (.inr (3, F')) ∧ m_M h' q q8 gb F' tp fr a' ∧ m_ag F F') := by
  have hM : (x_mt e.1)[21]? = some xM21 := rfl
  obtain ⟨⟨h7, f0, f1, f2, f11, h8, hne, htp⟩, ⟨t6, f6⟩, f7, n9, f9⟩ := id hS
  refine xT.s1 hM rfl rfl ?_
  refine xT.s1 hM rfl rfl ?_
  refine xT.s2 hM rfl rfl (x2_put rfl h7 ⟨Or.inl rfl, rfl, by rw [f0]; decide, rfl, Or.inl rfl⟩) ?_
  have hS1 := hS.set6 (Int32.ofInt 5)
  generalize hF1 : F.set 6 (.int (Int32.ofInt 5)) = F1 at hS1
  generalize hh1 : h.set q (.inr (3, F1)) = h1 at hS1
  obtain ⟨⟨h7, f0, f1, f2, f11, h8, hne, htp⟩, ⟨t6, f6⟩, f7, n9, f9⟩ := id hS1
  refine xT.s1 hM rfl rfl ?_
  refine xT.s1 hM rfl rfl ?_
  refine xT.s2 hM rfl rfl (x2_put rfl h7 ⟨Or.inl rfl, rfl, by rw [f0]; decide, rfl, Or.inl rfl⟩) ?_
  refine m_numLoop (tp - a) a _ _ (hS1.set9 0) (Nat.le_refl _) ha (fun a' F' h' w1 w2 w3 w4 w5 w6 => ?_)
  have eh : h' = h.set q (.inr (3, F')) := by rw [w4, ← hh1, List.set_set, List.set_set]
  have eg : m_ag F F' := by
    refine m_ag.tr (G := F1) ?_ (((m_ag.rf F1).set (Or.inr (Or.inl rfl)) _).tr w6)
    rw [← hF1]
    exact (m_ag.rf F).set (Or.inl rfl) _
  obtain ⟨⟨h7, f0, f1, f2, f11, h8, hne, htp⟩, ⟨t6, f6⟩, f7, n9, f9⟩ := id w5
  have fin : xT e (d + 1) 21 119 [(0, .ref q)] [] h' (fun o h' => ∃ v, o = .inl v ∧ v = none ∧ ∃ (a' : Nat) (F' : List Value), a ≤ a' ∧ a' ≤ tp ∧ ¬ x_isD (x_by gb tp a') = true ∧ h' = h.set q (.inr (3, F')) ∧ m_M h' q q8 gb F' tp fr a' ∧ m_ag F F') := xT.ret hM rfl rfl rfl rfl ⟨_, rfl, rfl, a', F', w1, w2, w3, eh, w5, eg⟩
  refine xT.s1 hM rfl rfl ?_
  refine xT.s1 hM rfl rfl ?_
  refine xT.s2 hM rfl rfl (x2_get rfl (Or.inl rfl) h7 f7) ?_
  refine xT.go hM rfl rfl rfl rfl rfl rfl (xc_virt rfl rfl rfl h7 ⟨rfl, Nat.le_of_ble_eq_true rfl, rfl, Or.inl rfl⟩) rfl ⟨Nat.le_of_ble_eq_true rfl, Nat.le_of_ble_eq_true rfl, by decide⟩ (m_byteAt w5.1 (k := fr) hfr) (fun v h2 hv => ?_)
  obtain ⟨rfl, hh2⟩ := hv
  subst h2
  refine xT.s1 hM rfl rfl ?_
  refine xT.s1 hM rfl rfl ?_
  split
  · refine xT.s1 hM rfl rfl ?_
    refine xT.s2 hM rfl rfl (x2_get rfl (Or.inl rfl) h7 f11) ?_
    refine xT.s1 hM rfl rfl ?_
    refine xT.s2 hM rfl rfl (x2_get rfl (Or.inl rfl) h7 f7) ?_
    refine xT.s1 hM rfl rfl ?_
    refine xT.s1 hM rfl rfl ?_
    refine xT.s1 hM rfl rfl ?_
    split
    · exact fin
    · refine xT.s1 hM rfl rfl ?_
      refine xT.s1 hM rfl rfl ?_
      refine xT.s2 hM rfl rfl (x2_put rfl h7 ⟨Or.inl rfl, rfl, by rw [f0]; decide, rfl, Or.inl rfl⟩) ?_
      exact xT.ret hM rfl rfl rfl rfl ⟨_, rfl, rfl, a', _, w1, w2, w3, by rw [eh, List.set_set], by rw [show h'.set q _ = h'.set q (.inr (3, F'.set 6 (.int (Int32.ofInt 1)))) from rfl]; exact w5.set6 _, eg.set (Or.inl rfl) _⟩
  · exact fin
