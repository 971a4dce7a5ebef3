/-! the reference: its leaves -/
/-- the byte at k, or -1 -/
def x_by (gb : Nat → Int32) (tp k : Nat) : Int32 := if k < tp then gb k &&& 255 else -1
section XM
variable {e : xE} {d q q8 tp k : Nat} {F : List Value} {gb : Nat → Int32} {h : ab_H}
theorem m_byteAt (h7 : h[q]? = some (.inr (3, F))) (f1 : F[1]? = some (.ref q8)) (f2 : F[2]? = some (.int (nI tp))) (h8 : h[q8]? = some (.inl (0, 4096, fun j => .int (gb j)))) (htp : tp ≤ 4096) (hk : k < 2 ^ 31) : xT e d 13 0 [(0, .ref q), (1, .int (nI k))] [] h (fun o h' => o = .inl (some (.int (x_by gb tp k))) ∧ h' = h) := by
  have hM : (x_mt e.1)[13]? = some xM13 := rfl
  refine xT.s1 hM rfl rfl ?_
  refine xT.s1 hM rfl rfl ?_
  refine xT.s2 hM rfl rfl (x2_get rfl (Or.inl rfl) h7 f2) ?_
  refine xT.s1 hM rfl rfl ?_
  by_cases hlt : k < tp
  · rw [if_neg (fun z => absurd ((nI_leI (by omega) (by omega)).mp z) (by omega))]
    refine xT.s1 hM rfl rfl ?_
    refine xT.s2 hM rfl rfl (x2_get rfl (Or.inl rfl) h7 f1) ?_
    refine xT.s1 hM rfl rfl ?_
    refine xT.s2 hM rfl rfl (x2_bald h8 rfl (x_ixN (by omega) (by omega))) ?_
    rw [nI_clamp (by omega)]
    refine xT.s1 hM rfl rfl ?_
    refine xT.s1 hM rfl rfl ?_
    refine xT.s1 hM rfl rfl ?_
    refine xT.ret hM rfl rfl rfl rfl ⟨?_, rfl⟩
    unfold x_by
    rw [if_pos hlt]
    rfl
  · rw [if_pos ((nI_leI (by omega) (by omega)).mpr (by omega))]
    refine xT.s1 hM rfl rfl ?_
    refine xT.ret hM rfl rfl rfl rfl ⟨?_, rfl⟩
    unfold x_by
    rw [if_neg hlt]
    rfl
end XM
