/-! the JDK: Math.min, Math.max, canEncode, isLatin1, newLength -/
section XJ
variable {e : xE} {d : Nat} {h : ab_H}
theorem j_max (a b : Int32) : xT e d 68 0 [(0, .int a), (1, .int b)] [] h (fun o h' => ∃ v, o = .inl v ∧ v = some (.int (if a < b then b else a)) ∧ h' = h) := by
  have hM : (x_mt e.1)[68]? = some xM68 := rfl
  refine xT.s1 hM rfl rfl ?_
  refine xT.s1 hM rfl rfl ?_
  refine xT.s1 hM rfl rfl ?_
  by_cases c : a < b
  · simp only [if_pos c]
    refine xT.s1 hM rfl rfl ?_
    exact xT.ret hM rfl rfl rfl rfl ⟨_, rfl, rfl, rfl⟩
  · simp only [if_neg c]
    refine xT.s1 hM rfl rfl ?_
    refine xT.s1 hM rfl rfl ?_
    exact xT.ret hM rfl rfl rfl rfl ⟨_, rfl, rfl, rfl⟩
theorem j_min (a b : Int32) : xT e d 67 0 [(0, .int a), (1, .int b)] [] h (fun o h' => ∃ v, o = .inl v ∧ v = some (.int (if b < a then b else a)) ∧ h' = h) := by
  have hM : (x_mt e.1)[67]? = some xM67 := rfl
  refine xT.s1 hM rfl rfl ?_
  refine xT.s1 hM rfl rfl ?_
  refine xT.s1 hM rfl rfl ?_
  by_cases c : b < a
  · simp only [if_pos c]
    refine xT.s1 hM rfl rfl ?_
    exact xT.ret hM rfl rfl rfl rfl ⟨_, rfl, rfl, rfl⟩
  · simp only [if_neg c]
    refine xT.s1 hM rfl rfl ?_
    refine xT.s1 hM rfl rfl ?_
    exact xT.ret hM rfl rfl rfl rfl ⟨_, rfl, rfl, rfl⟩
theorem j_canEncode {c : Int32} (hc : c ≤ 255) : xT e d 81 0 [(0, .int c)] [] h (fun o h' => ∃ v, o = .inl v ∧ v = some (.int 1) ∧ h' = h) := by
  have hM : (x_mt e.1)[81]? = some xM81 := rfl
  refine xT.s1 hM rfl rfl ?_
  refine xT.s1 hM rfl rfl ?_
  refine xT.s1 hM rfl rfl ?_
  rw [if_neg (show ¬ (Int16.ofInt 255).toInt32 < c from Int32.not_lt.mpr hc)]
  refine xT.s1 hM rfl rfl ?_
  refine xT.s1 hM rfl rfl ?_
  exact xT.ret hM rfl rfl rfl rfl ⟨_, rfl, rfl, rfl⟩
theorem j_isLatin1 {q : Nat} {fs : List Value} (hq : h[q]? = some (.inr (12, fs))) (hc : fs[1]? = some (.int 0)) : xT e d 90 0 [(0, .ref q)] [] h (fun o h' => ∃ v, o = .inl v ∧ v = some (.int 1) ∧ h' = h) := by
  have hM : (x_mt e.1)[90]? = some xM90 := rfl
  refine xT.s4 hM rfl rfl rfl rfl rfl rfl rfl rfl rfl rfl ?_
  refine xT.s1 hM rfl rfl ?_
  rw [if_neg (by decide)]
  refine xT.s1 hM rfl rfl ?_
  refine xT.s2 hM rfl rfl (x2_get rfl (Or.inl rfl) hq hc) ?_
  refine xT.s1 hM rfl rfl ?_
  rw [if_pos rfl]
  refine xT.s1 hM rfl rfl ?_
  refine xT.s1 hM rfl rfl ?_
  exact xT.ret hM rfl rfl rfl rfl ⟨_, rfl, rfl, rfl⟩
/-- the sum of the old length and of the greater one of what is wanted -/
theorem j_newLength {a b c : Nat} (h1 : 0 < a + max b c) (h2 : a + max b c < 2147483639) : xT e (d + 1) 60 0 [(0, .int (nI a)), (1, .int (nI b)), (2, .int (nI c))] [] h (fun o h' => ∃ v, o = .inl v ∧ v = some (.int (nI (a + max b c))) ∧ h' = h) := by
  have hM : (x_mt e.1)[60]? = some xM60 := rfl
  refine xT.s1 hM rfl rfl ?_
  refine xT.s1 hM rfl rfl ?_
  refine xT.s1 hM rfl rfl ?_
  refine xT.go hM rfl rfl rfl rfl rfl rfl (xc_stat rfl rfl ⟨rfl, Nat.le_of_ble_eq_true rfl⟩) rfl ⟨Nat.le_of_ble_eq_true rfl, Nat.le_of_ble_eq_true rfl, by decide⟩ (j_max (nI b) (nI c)) (fun v h2 hv => ?_)
  obtain ⟨rfl, hh2⟩ := hv
  subst h2
  have em : (if nI b < nI c then nI c else nI b) = nI (max b c) := by
    by_cases z : b < c
    · rw [if_pos (nI_lt z (by omega)), Nat.max_eq_right (by omega)]
    · rw [if_neg (nI_nlt (by omega) (by omega)), Nat.max_eq_left (by omega)]
  rw [em]
  refine xT.s1 hM rfl rfl ?_
  rw [nI_add a (max b c)]
  generalize a + max b c = s at h1 h2
  refine xT.s1 hM rfl rfl ?_
  refine xT.s1 hM rfl rfl ?_
  refine xT.s1 hM rfl rfl ?_
  refine xT.s1 hM rfl rfl ?_
  rw [if_neg (show ¬ nI s ≤ Int32.ofInt 0 from fun z => absurd ((nI_leI (a := s) (b := 0) (by omega) (by omega)).mp z) (by omega))]
  refine xT.s1 hM rfl rfl ?_
  refine xT.s2 hM rfl rfl rfl ?_
  refine xT.s1 hM rfl rfl ?_
  rw [if_neg (show ¬ (2147483639 : Int32) < nI s from fun z => absurd ((nI_ltI (a := 2147483639) (b := s) (by omega) (by omega)).mp z) (by omega))]
  refine xT.s1 hM rfl rfl ?_
  exact xT.ret hM rfl rfl rfl rfl ⟨_, rfl, rfl, rfl⟩
end XJ
