/-! the reference: its leaves -/
/-- the byte at k, or -1 -/
def x_by (gb : Nat → Int32) (tp k : Nat) : Int32 := if k < tp then gb k &&& 255 else -1
/-- the reference's object at q with its fields F; its row of bytes at q8, tp of them in use; at -/
def m_S (h : ab_H) (q q8 : Nat) (gb : Nat → Int32) (F : List Value) (tp a : Nat) : Prop := h[q]? = some (.inr (3, F)) ∧ F.length = 21 ∧ F[1]? = some (.ref q8) ∧ F[2]? = some (.int (nI tp)) ∧ F[11]? = some (.int (nI a)) ∧ h[q8]? = some (.inl (0, 4096, fun j => .int (gb j))) ∧ q ≠ q8 ∧ tp ≤ 4096
theorem m_S.put {h : ab_H} {q q8 : Nat} {gb : Nat → Int32} {F : List Value} {tp a : Nat} (hS : m_S h q q8 gb F tp a) (a' : Nat) : m_S (h.set q (.inr (3, F.set 11 (.int (nI a'))))) q q8 gb (F.set 11 (.int (nI a'))) tp a' := by
  obtain ⟨h1, h2, h3, h4, h5, h6, h7, h8⟩ := hS
  have hl := (List.getElem?_eq_some_iff.mp h1).1
  refine ⟨by rw [List.getElem?_set_self hl], by rw [List.length_set]; exact h2, ?_, ?_, ?_, ?_, h7, h8⟩
  · rw [List.getElem?_set_ne (by decide)]; exact h3
  · rw [List.getElem?_set_ne (by decide)]; exact h4
  · rw [List.getElem?_set_self (by rw [h2]; decide)]
  · rw [List.getElem?_set_ne h7]; exact h6
section XM
variable {e : xE} {d q q8 tp k : Nat} {F : List Value} {gb : Nat → Int32} {h : ab_H}
theorem m_byteAt {a : Nat} (hS : m_S h q q8 gb F tp a) (hk : k < 2 ^ 31) : xT e d 13 0 [(0, .ref q), (1, .int (nI k))] [] h (fun o h' => ∃ v, o = .inl v ∧ v = some (.int (x_by gb tp k)) ∧ h' = h) := by
  obtain ⟨h7, -, f1, f2, -, h8, -, htp⟩ := hS
  have hM : (x_mt e.1)[13]? = some xM13 := rfl
  refine xT.s1 hM rfl rfl ?_
  refine xT.s1 hM rfl rfl ?_
  refine xT.s2 hM rfl rfl (x2_get rfl (Or.inl rfl) h7 f2) ?_
  refine xT.s1 hM rfl rfl ?_
  by_cases hlt : k < tp
  · rw [if_neg (fun z => absurd ((nI_leI (by omega) (by omega)).mp z) (by omega))]
    refine xT.s1 hM rfl rfl ?_
    refine xT.s2 hM rfl rfl (x2_get rfl (Or.inl rfl) h7 f1) ?_
    refine xT.s1 hM rfl rfl ?_
    refine xT.s2 hM rfl rfl (x2_bald h8 rfl (x_ixN (by omega) (by omega))) ?_
    rw [nI_clamp (by omega)]
    refine xT.s1 hM rfl rfl ?_
    refine xT.s1 hM rfl rfl ?_
    refine xT.s1 hM rfl rfl ?_
    refine xT.ret hM rfl rfl rfl rfl ⟨_, rfl, ?_, rfl⟩
    unfold x_by
    rw [if_pos hlt]
    rfl
  · rw [if_pos ((nI_leI (by omega) (by omega)).mpr (by omega))]
    refine xT.s1 hM rfl rfl ?_
    refine xT.ret hM rfl rfl rfl rfl ⟨_, rfl, ?_, rfl⟩
    unfold x_by
    rw [if_neg hlt]
    rfl
def x_isB (c : Int32) : Bool := c == 9 || c == 10 || c == 13 || c == 32
theorem m_blank (c : Int32) : xT e d 14 0 [(0, .ref q), (1, .int c)] [] h (fun o h' => ∃ v, o = .inl v ∧ v = some (.int (if x_isB c = true then 1 else 0)) ∧ h' = h) := by
  have hM : (x_mt e.1)[14]? = some xM14 := rfl
  have yes : ∀ (hy : x_isB c = true), xT e d 14 24 [(0, .ref q), (1, .int c)] [] h (fun o h' => ∃ v, o = .inl v ∧ v = some (.int (if x_isB c = true then 1 else 0)) ∧ h' = h) := fun hy => by
    refine xT.s1 hM rfl rfl ?_
    refine xT.s1 hM rfl rfl ?_
    exact xT.ret hM rfl rfl rfl rfl ⟨_, rfl, by rw [if_pos hy]; rfl, rfl⟩
  refine xT.s1 hM rfl rfl ?_
  refine xT.s1 hM rfl rfl ?_
  refine xT.s1 hM rfl rfl ?_
  by_cases c1 : c = 9
  · subst c1; exact yes rfl
  rw [if_neg (show ¬ c = (Int8.ofInt 9).toInt32 from c1)]
  refine xT.s1 hM rfl rfl ?_
  refine xT.s1 hM rfl rfl ?_
  refine xT.s1 hM rfl rfl ?_
  by_cases c2 : c = 10
  · subst c2; exact yes rfl
  rw [if_neg (show ¬ c = (Int8.ofInt 10).toInt32 from c2)]
  refine xT.s1 hM rfl rfl ?_
  refine xT.s1 hM rfl rfl ?_
  refine xT.s1 hM rfl rfl ?_
  by_cases c3 : c = 13
  · subst c3; exact yes rfl
  rw [if_neg (show ¬ c = (Int8.ofInt 13).toInt32 from c3)]
  refine xT.s1 hM rfl rfl ?_
  refine xT.s1 hM rfl rfl ?_
  refine xT.s1 hM rfl rfl ?_
  by_cases c4 : c = 32
  · subst c4; exact yes rfl
  rw [if_neg (show ¬ c = (Int8.ofInt 32).toInt32 from c4)]
  refine xT.s1 hM rfl rfl ?_
  refine xT.ret hM rfl rfl rfl rfl ⟨_, rfl, ?_, rfl⟩
  rw [if_neg (by simp [x_isB, c1, c2, c3, c4])]
  rfl
end XM
