/-! the law's run on ONE script: the machine's own end -/
def z_sc : List Int32 := [0, 657468717, 1630350641, 658645024, 538976288, 538976288, 2, 0, 0, 0, 0, 0, 6, 0, 0, 0, 0, 0]
def z_zero (r : Option (ab_O × ab_H)) : Bool := match r with
  | some (.inl (some (.int v)), _) => v == 0
  | _ => false
theorem z_zero_ok {r : Option (ab_O × ab_H)} (h : z_zero r = true) : ∃ h', r = some (.inl (some (.int 0)), h') := by
  unfold z_zero at h
  split at h
  · rename_i v h'
    have e : v = 0 := by simpa using h
    subst e
    exact ⟨_, rfl⟩
  · cases h
theorem z_run1 : z_zero (ab_run x_cl x_ct x_cd x_aty (x_oa 18 (fun j => z_sc.getD j 0)) x_oo x_sb 601024 7293034 x_nc (x_mt .null) 100000 1000 0 0 [(0, .float 0)] [] []) = true := by decide +kernel
theorem z_run2 : z_zero (ab_run x_cl x_ct x_cd x_aty (x_oa 18 (fun j => z_sc.getD j 0)) x_oo x_sb 601024 7293034 x_nc (x_mt (.float 119)) 100000 1000 0 0 [(0, .float 0)] [] []) = true := by decide +kernel
theorem z_run (b : Nat) (s : State) : ∃ h', ab_run x_cl x_ct x_cd x_aty (x_oa 18 (fun j => z_sc.getD j 0)) x_oo x_sb 601024 7293034 x_nc (x_mt (x_vS b s)) 100000 1000 0 0 [(0, .float 0)] [] [] = some (.inl (some (.int 0)), h') := by
  have hv : x_vS b s = .float 119 ∨ x_vS b s = .null := by
    unfold x_vS
    split
    · exact Or.inl rfl
    · exact Or.inr rfl
  rcases hv with h | h
  · rw [h]; exact z_zero_ok z_run2
  · rw [h]; exact z_zero_ok z_run1
