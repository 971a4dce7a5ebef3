/-! the JDK: StringBuilder -/
/-- a builder at q: its row of n bytes at qv, c of them in use, coder 0 -/
def j_SB (h : ab_H) (q qv : Nat) (fs : List Value) (n c : Nat) (f : Nat → Int32) : Prop := h[q]? = some (.inr (12, fs)) ∧ fs.length = 4 ∧ fs[0]? = some (.ref qv) ∧ fs[1]? = some (.int 0) ∧ fs[3]? = some (.int (nI c)) ∧ j_B h qv n f ∧ q ≠ qv ∧ c ≤ n ∧ n ≤ 20000
theorem x_shl0 (x : Int32) : x <<< ((0 : Int32) &&& 31) = x := by
  rw [show (0 : Int32) &&& 31 = 0 from by decide]
  simp
theorem x_shr0 (x : Int32) : x >>> ((0 : Int32) &&& 31) = x := by
  rw [show (0 : Int32) &&& 31 = 0 from by decide]
  simp
section XB
variable {e : xE} {d q qv n c : Nat} {fs : List Value} {f : Nat → Int32} {h : ab_H}
theorem j_newCapacity (hS : j_SB h q qv fs n c f) : xT e (d + 2) 89 0 [(0, .ref q), (1, .int (nI (n + 1)))] [] h (fun o h' => ∃ v, o = .inl v ∧ v = some (.int (nI (2 * n + 2))) ∧ h' = h) := by
  obtain ⟨hq, hl, f0, f1, f3, hB, hne, hc, hn⟩ := hS
  have hM : (x_mt e.1)[89]? = some xM89 := rfl
  refine xT.s1 hM rfl rfl ?_
  refine xT.s2 hM rfl rfl (x2_get rfl (Or.inl rfl) hq f0) ?_
  refine xT.s2 hM rfl rfl (x2_alen hB.1 (by decide)) ?_
  refine xT.s1 hM rfl rfl ?_
  refine xT.s1 hM rfl rfl ?_
  refine xT.s1 hM rfl rfl ?_
  refine xT.s2 hM rfl rfl (x2_get rfl (Or.inl rfl) hq f1) ?_
  refine xT.s1 hM rfl rfl ?_
  rw [x_shl0]
  refine xT.s1 hM rfl rfl ?_
  refine xT.s1 hM rfl rfl ?_
  refine xT.s1 hM rfl rfl ?_
  refine xT.s1 hM rfl rfl ?_
  rw [show nI (n + 1) - nI n = nI 1 from by rw [show n + 1 = 1 + n from by omega, ← nI_add 1 n]; exact Int32.add_sub_cancel _ _]
  refine xT.s1 hM rfl rfl ?_
  refine xT.s1 hM rfl rfl ?_
  refine xT.s1 hM rfl rfl ?_
  refine xT.s1 hM rfl rfl ?_
  refine xT.s1 hM rfl rfl ?_
  refine xT.s1 hM rfl rfl ?_
  refine xT.s2 hM rfl rfl (x2_get rfl (Or.inl rfl) hq f1) ?_
  refine xT.s1 hM rfl rfl ?_
  rw [x_shl0]
  refine xT.s1 hM rfl rfl ?_
  rw [show nI n + Int32.ofInt 2 = nI (n + 2) from nI_add n 2]
  refine xT.go hM rfl rfl rfl rfl rfl rfl (xc_stat rfl rfl ⟨rfl, Nat.le_of_ble_eq_true rfl⟩) rfl ⟨Nat.le_of_ble_eq_true rfl, Nat.le_of_ble_eq_true rfl, by decide⟩ (j_newLength (a := n) (b := 1) (c := n + 2) (by omega) (by omega)) (fun v h2 hv => ?_)
  obtain ⟨rfl, hh2⟩ := hv
  subst h2
  rw [show n + max 1 (n + 2) = 2 * n + 2 from by omega]
  refine xT.s1 hM rfl rfl ?_
  refine xT.s1 hM rfl rfl ?_
  refine xT.s2 hM rfl rfl rfl ?_
  refine xT.s1 hM rfl rfl ?_
  rw [if_neg (show ¬ nI (2 * n + 2) = 2147483647 from fun z => absurd ((nI_eq (a := 2 * n + 2) (b := 2147483647) (by omega) (by omega)).mp z) (by omega))]
  refine xT.s1 hM rfl rfl ?_
  refine xT.s1 hM rfl rfl ?_
  refine xT.s2 hM rfl rfl (x2_get rfl (Or.inl rfl) hq f1) ?_
  refine xT.s1 hM rfl rfl ?_
  rw [x_shr0]
  exact xT.ret hM rfl rfl rfl rfl ⟨_, rfl, rfl, rfl⟩
/-- room for one more: as it was, or with a longer row -/
theorem j_ensure (hS : j_SB h q qv fs n c f) (hn2 : n ≤ 9000) (r1 : h.length + 1 ≤ e.2.2.2.1) (r2 : ab_sz h + (2 * n + 2) ≤ e.2.2.2.2.1) : xT e (d + 3) 88 0 [(0, .ref q), (1, .int (nI (c + 1)))] [] h (fun o h' => ∃ v, o = .inl v ∧ v = none ∧ ((c < n ∧ h' = h) ∨ (c = n ∧ h' = (h ++ [(.inl (0, 2 * n + 2, fun j => .int (j_cp f n j)) : ab_E)]).set q (.inr (12, fs.set 0 (.ref h.length)))))) := by
  have hS' := hS
  obtain ⟨hq, hl, f0, f1, f3, hB, hne, hc, hn⟩ := hS
  have hM : (x_mt e.1)[88]? = some xM88 := rfl
  refine xT.s1 hM rfl rfl ?_
  refine xT.s2 hM rfl rfl (x2_get rfl (Or.inl rfl) hq f0) ?_
  refine xT.s2 hM rfl rfl (x2_alen hB.1 (by decide)) ?_
  refine xT.s1 hM rfl rfl ?_
  refine xT.s2 hM rfl rfl (x2_get rfl (Or.inl rfl) hq f1) ?_
  refine xT.s1 hM rfl rfl ?_
  rw [x_shr0]
  refine xT.s1 hM rfl rfl ?_
  refine xT.s1 hM rfl rfl ?_
  refine xT.s1 hM rfl rfl ?_
  refine xT.s1 hM rfl rfl ?_
  by_cases hlt : c < n
  · have e1 : nI (c + 1) - nI n ≤ 0 := by
      have z : (nI (c + 1) - nI n).toInt = (c + 1 : Int) - n := by
        have z1 : (nI (c + 1)).toInt = (c + 1 : Int) := by rw [nI, Int32.toInt_ofNat_of_lt (by omega)]; rfl
        have z2 : (nI n).toInt = (n : Int) := by rw [nI, Int32.toInt_ofNat_of_lt (by omega)]
        rw [Int32.toInt_sub, z1, z2]
        exact Int.bmod_eq_of_le (by omega) (by omega)
      rw [Int32.le_iff_toInt_le, z]
      simp
      omega
    refine xT.s1 hM rfl rfl ?_
    rw [if_pos e1]
    exact xT.ret hM rfl rfl rfl rfl ⟨_, rfl, rfl, Or.inl ⟨hlt, rfl⟩⟩
  · have ec : c = n := by omega
    subst ec
    rw [show nI (c + 1) - nI c = nI 1 from by rw [show c + 1 = 1 + c from by omega, ← nI_add 1 c]; exact Int32.add_sub_cancel _ _]
    refine xT.s1 hM rfl rfl ?_
    rw [if_neg (show ¬ nI 1 ≤ 0 from by decide)]
    refine xT.s1 hM rfl rfl ?_
    refine xT.s1 hM rfl rfl ?_
    refine xT.s2 hM rfl rfl (x2_get rfl (Or.inl rfl) hq f0) ?_
    refine xT.s1 hM rfl rfl ?_
    refine xT.s1 hM rfl rfl ?_
    refine xT.go hM rfl rfl rfl rfl rfl rfl (xc_inh rfl rfl rfl hq ⟨rfl, Nat.le_of_ble_eq_true rfl⟩) rfl ⟨Nat.le_of_ble_eq_true rfl, Nat.le_of_ble_eq_true rfl, by decide⟩ (j_newCapacity hS') (fun v h2 hv => ?_)
    obtain ⟨rfl, hh2⟩ := hv
    subst h2
    refine xT.s1 hM rfl rfl ?_
    refine xT.s2 hM rfl rfl (x2_get rfl (Or.inl rfl) hq f1) ?_
    refine xT.s1 hM rfl rfl ?_
    rw [x_shl0]
    refine xT.go hM rfl rfl rfl rfl rfl rfl (xc_stat rfl rfl ⟨rfl, Nat.le_of_ble_eq_true rfl⟩) rfl ⟨Nat.le_of_ble_eq_true rfl, Nat.le_of_ble_eq_true rfl, by decide⟩ (j_copyOf hB (m := 2 * c + 2) (by omega) (by omega) r1 r2) (fun v h2 hv => ?_)
    obtain ⟨rfl, hh2⟩ := hv
    subst h2
    have hq2 : (h ++ [(.inl (0, 2 * c + 2, fun j => .int (j_cp f c j)) : ab_E)])[q]? = some (.inr (12, fs)) := by rw [List.getElem?_append_left (List.getElem?_eq_some_iff.mp hq).1]; exact hq
    refine xT.s2 hM rfl rfl (x2_put rfl hq2 ⟨Or.inl rfl, rfl, by rw [hl]; decide, rfl, Or.inl rfl⟩) ?_
    exact xT.ret hM rfl rfl rfl rfl ⟨_, rfl, rfl, Or.inr ⟨rfl, rfl⟩⟩
end XB
