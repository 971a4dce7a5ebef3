/-! the reference: digit, letter -/
def x_isD (c : Int32) : Bool := decide (48 ≤ c) && decide (c ≤ 57)
def x_isL (c : Int32) : Bool := (decide (97 ≤ c) && decide (c ≤ 122)) || (decide (65 ≤ c) && decide (c ≤ 90))
section XL
variable {e : xE} {d q : Nat} {h : ab_H}
theorem m_digit (c : Int32) : xT e d 15 0 [(0, .ref q), (1, .int c)] [] h (fun o h' => ∃ v, o = .inl v ∧ v = some (.int (if x_isD c = true then 1 else 0)) ∧ h' = h) := by
  have hM : (x_mt e.1)[15]? = some xM15 := rfl
  have yes : ∀ (hy : x_isD c = true), xT e d 15 12 [(0, .ref q), (1, .int c)] [] h (fun o h' => ∃ v, o = .inl v ∧ v = some (.int (if x_isD c = true then 1 else 0)) ∧ h' = h) := fun hy => by
    refine xT.s1 hM rfl rfl ?_
    refine xT.s1 hM rfl rfl ?_
    exact xT.ret hM rfl rfl rfl rfl ⟨_, rfl, by rw [if_pos hy]; rfl, rfl⟩
  have no : ∀ (hy : ¬ x_isD c = true), xT e d 15 16 [(0, .ref q), (1, .int c)] [] h (fun o h' => ∃ v, o = .inl v ∧ v = some (.int (if x_isD c = true then 1 else 0)) ∧ h' = h) := fun hy => by
    refine xT.s1 hM rfl rfl ?_
    exact xT.ret hM rfl rfl rfl rfl ⟨_, rfl, by rw [if_neg hy]; rfl, rfl⟩
  refine xT.s1 hM rfl rfl ?_
  refine xT.s1 hM rfl rfl ?_
  refine xT.s1 hM rfl rfl ?_
  by_cases c1 : c < 48
  · rw [if_pos (show c < (Int8.ofInt 48).toInt32 from c1)]; exact no (by simp [x_isD, Int32.not_le.mpr c1])
  rw [if_neg (show ¬ c < (Int8.ofInt 48).toInt32 from c1)]
  refine xT.s1 hM rfl rfl ?_
  refine xT.s1 hM rfl rfl ?_
  refine xT.s1 hM rfl rfl ?_
  by_cases c2 : 57 < c
  · rw [if_pos (show (Int8.ofInt 57).toInt32 < c from c2)]; exact no (by simp [x_isD, Int32.not_le.mpr c2])
  rw [if_neg (show ¬ (Int8.ofInt 57).toInt32 < c from c2)]
  exact yes (by simp [x_isD, Int32.not_lt.mp c1, Int32.not_lt.mp c2])
theorem m_letter (c : Int32) : xT e d 16 0 [(0, .ref q), (1, .int c)] [] h (fun o h' => ∃ v, o = .inl v ∧ v = some (.int (if x_isL c = true then 1 else 0)) ∧ h' = h) := by
  have hM : (x_mt e.1)[16]? = some xM16 := rfl
  have yes : ∀ (hy : x_isL c = true), xT e d 16 24 [(0, .ref q), (1, .int c)] [] h (fun o h' => ∃ v, o = .inl v ∧ v = some (.int (if x_isL c = true then 1 else 0)) ∧ h' = h) := fun hy => by
    refine xT.s1 hM rfl rfl ?_
    refine xT.s1 hM rfl rfl ?_
    exact xT.ret hM rfl rfl rfl rfl ⟨_, rfl, by rw [if_pos hy]; rfl, rfl⟩
  have no : ∀ (hy : ¬ x_isL c = true), xT e d 16 28 [(0, .ref q), (1, .int c)] [] h (fun o h' => ∃ v, o = .inl v ∧ v = some (.int (if x_isL c = true then 1 else 0)) ∧ h' = h) := fun hy => by
    refine xT.s1 hM rfl rfl ?_
    exact xT.ret hM rfl rfl rfl rfl ⟨_, rfl, by rw [if_neg hy]; rfl, rfl⟩
  have big : ∀ (hs : ¬ (97 ≤ c ∧ c ≤ 122)), xT e d 16 12 [(0, .ref q), (1, .int c)] [] h (fun o h' => ∃ v, o = .inl v ∧ v = some (.int (if x_isL c = true then 1 else 0)) ∧ h' = h) := fun hs => by
    have hs' : (decide (97 ≤ c) && decide (c ≤ 122)) = false := by
      cases hb : (decide (97 ≤ c) && decide (c ≤ 122)) with
      | false => rfl
      | true => exact absurd (by simpa using hb) hs
    refine xT.s1 hM rfl rfl ?_
    refine xT.s1 hM rfl rfl ?_
    refine xT.s1 hM rfl rfl ?_
    by_cases c3 : c < 65
    · rw [if_pos (show c < (Int8.ofInt 65).toInt32 from c3)]; exact no (by unfold x_isL; rw [hs']; simp [Int32.not_le.mpr c3])
    rw [if_neg (show ¬ c < (Int8.ofInt 65).toInt32 from c3)]
    refine xT.s1 hM rfl rfl ?_
    refine xT.s1 hM rfl rfl ?_
    refine xT.s1 hM rfl rfl ?_
    by_cases c4 : 90 < c
    · rw [if_pos (show (Int8.ofInt 90).toInt32 < c from c4)]; exact no (by unfold x_isL; rw [hs']; simp [Int32.not_le.mpr c4])
    rw [if_neg (show ¬ (Int8.ofInt 90).toInt32 < c from c4)]
    exact yes (by unfold x_isL; rw [hs']; simp [Int32.not_lt.mp c3, Int32.not_lt.mp c4])
  refine xT.s1 hM rfl rfl ?_
  refine xT.s1 hM rfl rfl ?_
  refine xT.s1 hM rfl rfl ?_
  by_cases c1 : c < 97
  · rw [if_pos (show c < (Int8.ofInt 97).toInt32 from c1)]; exact big (fun z => absurd z.1 (Int32.not_le.mpr c1))
  rw [if_neg (show ¬ c < (Int8.ofInt 97).toInt32 from c1)]
  refine xT.s1 hM rfl rfl ?_
  refine xT.s1 hM rfl rfl ?_
  refine xT.s1 hM rfl rfl ?_
  by_cases c2 : c ≤ 122
  · rw [if_pos (show c ≤ (Int8.ofInt 122).toInt32 from c2)]; exact yes (by simp [x_isL, Int32.not_lt.mp c1, c2])
  rw [if_neg (show ¬ c ≤ (Int8.ofInt 122).toInt32 from c2)]
  exact big (fun z => c2 z.2)
/-- what a letter or a digit is not: -1 -/
theorem x_isD_by {gb : Nat → Int32} {tp k : Nat} (h : x_isD (x_by gb tp k) = true) : k < tp := by
  by_cases hk : k < tp
  · exact hk
  · unfold x_by at h; rw [if_neg hk] at h; exact absurd h (by decide)
theorem x_isL_by {gb : Nat → Int32} {tp k : Nat} (h : x_isL (x_by gb tp k) = true) : k < tp := by
  by_cases hk : k < tp
  · exact hk
  · unfold x_by at h; rw [if_neg hk] at h; exact absurd h (by decide)
end XL
