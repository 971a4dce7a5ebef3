/-! the class: its tape's leaves -/
/-- the tape at qt: its bytes, its letters, how many are kept, its length, its tokens -/
def c_T (h : ab_H) (qt qb ql th ta : Nat) (F : List Value) (gb gl : Nat → Int32) (len kp : Nat) : Prop := h[qt]? = some (.inr (1, F)) ∧ F.length = 6 ∧ F[0]? = some (.ref qb) ∧ F[1]? = some (.ref ql) ∧ F[2]? = some (.int (nI kp)) ∧ F[3]? = some (.int (nI len)) ∧ F[4]? = some (.ref th) ∧ F[5]? = some (.ref ta) ∧ h[qb]? = some (.inl (0, 4096, fun j => .int (gb j))) ∧ h[ql]? = some (.inl (0, 4096, fun j => .int (gl j))) ∧ kp ≤ 4096 ∧ len ≤ 4096 ∧ qb ≠ ql
section XCL
variable {e : xE} {d qt qb ql th ta len kp k : Nat} {F : List Value} {gb gl : Nat → Int32} {h : ab_H} {c : Int32}
theorem c_at (hT : c_T h qt qb ql th ta F gb gl len kp) (hk : k < 2 ^ 31) : xT e d 135 0 [(0, .ref qt), (1, .int (nI k))] [] h (fun o h' => ∃ v, o = .inl v ∧ v = some (.int (x_by gb len k)) ∧ h' = h) := by
  have hM : (x_mt e.1)[135]? = some xM135 := rfl
  obtain ⟨ht, lt, t0, t1, t2, t3, t4, t5, hb8, hl8, k4, l4, hne⟩ := id hT
  refine xT.s1 hM rfl rfl ?_
  refine xT.s1 hM rfl rfl ?_
  refine xT.brF (nI_pos hk) ?_
  refine xT.s1 hM rfl rfl ?_
  refine xT.s1 hM rfl rfl ?_
  refine xT.s2 hM rfl rfl (x2_get rfl (Or.inl rfl) ht t3) ?_
  refine xT.s1 hM rfl rfl ?_
  refine xT.br (fun hb => ?_) (fun hb => ?_)
  · have hge : ¬ k < len := fun z => nI_ge z (by omega) hb
    refine xT.s1 hM rfl rfl ?_
    exact xT.ret hM rfl rfl rfl rfl (⟨_, rfl, by unfold x_by; rw [if_neg hge]; rfl, rfl⟩)
  · have hlt : k < len := Nat.lt_of_not_le (fun z => hb (nI_le z hk))
    refine xT.s1 hM rfl rfl ?_
    refine xT.s1 hM rfl rfl ?_
    refine xT.s2 hM rfl rfl (x2_get rfl (Or.inl rfl) ht t0) ?_
    refine xT.s2 hM rfl rfl (x2_alen hb8 (by decide)) ?_
    refine xT.s1 hM rfl rfl ?_
    refine xT.brF (nI_ge (by omega) (by omega)) ?_
    refine xT.s1 hM rfl rfl ?_
    refine xT.s2 hM rfl rfl (x2_get rfl (Or.inl rfl) ht t0) ?_
    refine xT.s1 hM rfl rfl ?_
    refine xT.bald hM rfl hb8 (by omega) (by omega) ?_
    refine xT.s1 hM rfl rfl ?_
    refine xT.s1 hM rfl rfl ?_
    refine xT.s1 hM rfl rfl ?_
    exact xT.ret hM rfl rfl rfl rfl (⟨_, rfl, by unfold x_by; rw [if_pos hlt]; rfl, rfl⟩)
theorem c_isB : xT e d 136 0 [(0, .int c)] [] h (fun o h' => ∃ v, o = .inl v ∧ v = some (.int (if x_isB c = true then 1 else 0)) ∧ h' = h) := by
  have hM : (x_mt e.1)[136]? = some xM136 := rfl
  refine xT.s1 hM rfl rfl ?_
  refine xT.s1 hM rfl rfl ?_
  refine xT.s1 hM rfl rfl ?_
  refine xT.br (fun b0 => ?_) (fun b0 => ?_)
  · rw [show (Int8.ofInt 9).toInt32 = 9 from by decide] at b0
    refine xT.s1 hM rfl rfl ?_
    refine xT.s1 hM rfl rfl ?_
    exact xT.ret hM rfl rfl rfl rfl (⟨_, rfl, by rw [if_pos (by simp [x_isB, b0])]; rfl, rfl⟩)
  · rw [show (Int8.ofInt 9).toInt32 = 9 from by decide] at b0
    refine xT.s1 hM rfl rfl ?_
    refine xT.s1 hM rfl rfl ?_
    refine xT.s1 hM rfl rfl ?_
    refine xT.br (fun b1 => ?_) (fun b1 => ?_)
    · rw [show (Int8.ofInt 10).toInt32 = 10 from by decide] at b1
      refine xT.s1 hM rfl rfl ?_
      refine xT.s1 hM rfl rfl ?_
      exact xT.ret hM rfl rfl rfl rfl (⟨_, rfl, by rw [if_pos (by simp [x_isB, b1])]; rfl, rfl⟩)
    · rw [show (Int8.ofInt 10).toInt32 = 10 from by decide] at b1
      refine xT.s1 hM rfl rfl ?_
      refine xT.s1 hM rfl rfl ?_
      refine xT.s1 hM rfl rfl ?_
      refine xT.br (fun b2 => ?_) (fun b2 => ?_)
      · rw [show (Int8.ofInt 13).toInt32 = 13 from by decide] at b2
        refine xT.s1 hM rfl rfl ?_
        refine xT.s1 hM rfl rfl ?_
        exact xT.ret hM rfl rfl rfl rfl (⟨_, rfl, by rw [if_pos (by simp [x_isB, b2])]; rfl, rfl⟩)
      · rw [show (Int8.ofInt 13).toInt32 = 13 from by decide] at b2
        refine xT.s1 hM rfl rfl ?_
        refine xT.s1 hM rfl rfl ?_
        refine xT.s1 hM rfl rfl ?_
        refine xT.br (fun b3 => ?_) (fun b3 => ?_)
        · rw [show (Int8.ofInt 32).toInt32 = 32 from by decide] at b3
          refine xT.s1 hM rfl rfl ?_
          refine xT.s1 hM rfl rfl ?_
          exact xT.ret hM rfl rfl rfl rfl (⟨_, rfl, by rw [if_pos (by simp [x_isB, b3])]; rfl, rfl⟩)
        · rw [show (Int8.ofInt 32).toInt32 = 32 from by decide] at b3
          refine xT.s1 hM rfl rfl ?_
          exact xT.ret hM rfl rfl rfl rfl (⟨_, rfl, by rw [if_neg (by simp [x_isB, b0, b1, b2, b3])]; rfl, rfl⟩)
theorem c_isD : xT e d 139 0 [(0, .int c)] [] h (fun o h' => ∃ v, o = .inl v ∧ v = some (.int (if x_isD c = true then 1 else 0)) ∧ h' = h) := by
  have hM : (x_mt e.1)[139]? = some xM139 := rfl
  refine xT.s1 hM rfl rfl ?_
  refine xT.s1 hM rfl rfl ?_
  refine xT.s1 hM rfl rfl ?_
  refine xT.br (fun b0 => ?_) (fun b0 => ?_)
  · rw [show (Int8.ofInt 48).toInt32 = 48 from by decide] at b0
    refine xT.s1 hM rfl rfl ?_
    exact xT.ret hM rfl rfl rfl rfl (⟨_, rfl, by rw [if_neg (by simp [x_isD, Int32.not_le.mpr b0])]; rfl, rfl⟩)
  · rw [show (Int8.ofInt 48).toInt32 = 48 from by decide] at b0
    refine xT.s1 hM rfl rfl ?_
    refine xT.s1 hM rfl rfl ?_
    refine xT.s1 hM rfl rfl ?_
    refine xT.br (fun b1 => ?_) (fun b1 => ?_)
    · rw [show (Int8.ofInt 57).toInt32 = 57 from by decide] at b1
      refine xT.s1 hM rfl rfl ?_
      exact xT.ret hM rfl rfl rfl rfl (⟨_, rfl, by rw [if_neg (by simp [x_isD, Int32.not_le.mpr b1])]; rfl, rfl⟩)
    · rw [show (Int8.ofInt 57).toInt32 = 57 from by decide] at b1
      refine xT.s1 hM rfl rfl ?_
      refine xT.s1 hM rfl rfl ?_
      exact xT.ret hM rfl rfl rfl rfl (⟨_, rfl, by rw [if_pos (by simp [x_isD, Int32.not_lt.mp b0, Int32.not_lt.mp b1])]; rfl, rfl⟩)
theorem c_isS : xT e d 137 0 [(0, .int c)] [] h (fun o h' => ∃ v, o = .inl v ∧ (∃ b : Int32, v = some (.int b)) ∧ h' = h) := by
  have hM : (x_mt e.1)[137]? = some xM137 := rfl
  refine xT.s1 hM rfl rfl ?_
  refine xT.s1 hM rfl rfl ?_
  refine xT.s1 hM rfl rfl ?_
  refine xT.br (fun b0 => ?_) (fun b0 => ?_)
  · refine xT.s1 hM rfl rfl ?_
    exact xT.ret hM rfl rfl rfl rfl (⟨_, rfl, ⟨_, rfl⟩, rfl⟩)
  · refine xT.s1 hM rfl rfl ?_
    refine xT.s1 hM rfl rfl ?_
    refine xT.s1 hM rfl rfl ?_
    refine xT.br (fun b1 => ?_) (fun b1 => ?_)
    · refine xT.s1 hM rfl rfl ?_
      exact xT.ret hM rfl rfl rfl rfl (⟨_, rfl, ⟨_, rfl⟩, rfl⟩)
    · refine xT.s1 hM rfl rfl ?_
      refine xT.s1 hM rfl rfl ?_
      exact xT.ret hM rfl rfl rfl rfl (⟨_, rfl, ⟨_, rfl⟩, rfl⟩)
theorem c_isL : xT e d 138 0 [(0, .int c)] [] h (fun o h' => ∃ v, o = .inl v ∧ v = some (.int (if x_isL c = true then 1 else 0)) ∧ h' = h) := by
  have hM : (x_mt e.1)[138]? = some xM138 := rfl
  refine xT.s1 hM rfl rfl ?_
  refine xT.s1 hM rfl rfl ?_
  refine xT.s1 hM rfl rfl ?_
  refine xT.br (fun b0 => ?_) (fun b0 => ?_)
  · rw [show (Int8.ofInt 97).toInt32 = 97 from by decide] at b0
    refine xT.s1 hM rfl rfl ?_
    refine xT.s1 hM rfl rfl ?_
    refine xT.s1 hM rfl rfl ?_
    refine xT.br (fun b2 => ?_) (fun b2 => ?_)
    · rw [show (Int8.ofInt 65).toInt32 = 65 from by decide] at b2
      refine xT.s1 hM rfl rfl ?_
      exact xT.ret hM rfl rfl rfl rfl (⟨_, rfl, by rw [if_neg (by simp [x_isL, Int32.not_le.mpr b0, Int32.not_le.mpr b2])]; rfl, rfl⟩)
    · rw [show (Int8.ofInt 65).toInt32 = 65 from by decide] at b2
      refine xT.s1 hM rfl rfl ?_
      refine xT.s1 hM rfl rfl ?_
      refine xT.s1 hM rfl rfl ?_
      refine xT.br (fun b3 => ?_) (fun b3 => ?_)
      · rw [show (Int8.ofInt 90).toInt32 = 90 from by decide] at b3
        refine xT.s1 hM rfl rfl ?_
        exact xT.ret hM rfl rfl rfl rfl (⟨_, rfl, by rw [if_neg (by simp [x_isL, Int32.not_le.mpr b0, Int32.not_le.mpr b3])]; rfl, rfl⟩)
      · rw [show (Int8.ofInt 90).toInt32 = 90 from by decide] at b3
        refine xT.s1 hM rfl rfl ?_
        refine xT.s1 hM rfl rfl ?_
        exact xT.ret hM rfl rfl rfl rfl (⟨_, rfl, by rw [if_pos (by simp [x_isL, Int32.not_lt.mp b2, Int32.not_lt.mp b3])]; rfl, rfl⟩)
  · rw [show (Int8.ofInt 97).toInt32 = 97 from by decide] at b0
    refine xT.s1 hM rfl rfl ?_
    refine xT.s1 hM rfl rfl ?_
    refine xT.s1 hM rfl rfl ?_
    refine xT.br (fun b1 => ?_) (fun b1 => ?_)
    · rw [show (Int8.ofInt 122).toInt32 = 122 from by decide] at b1
      refine xT.s1 hM rfl rfl ?_
      refine xT.s1 hM rfl rfl ?_
      exact xT.ret hM rfl rfl rfl rfl (⟨_, rfl, by rw [if_pos (by simp [x_isL, Int32.not_lt.mp b0, b1])]; rfl, rfl⟩)
    · rw [show (Int8.ofInt 122).toInt32 = 122 from by decide] at b1
      refine xT.s1 hM rfl rfl ?_
      refine xT.s1 hM rfl rfl ?_
      refine xT.s1 hM rfl rfl ?_
      refine xT.br (fun b2 => ?_) (fun b2 => ?_)
      · rw [show (Int8.ofInt 65).toInt32 = 65 from by decide] at b2
        refine xT.s1 hM rfl rfl ?_
        exact xT.ret hM rfl rfl rfl rfl (⟨_, rfl, by rw [if_neg (by simp [x_isL, b1, Int32.not_le.mpr b2])]; rfl, rfl⟩)
      · rw [show (Int8.ofInt 65).toInt32 = 65 from by decide] at b2
        refine xT.s1 hM rfl rfl ?_
        refine xT.s1 hM rfl rfl ?_
        refine xT.s1 hM rfl rfl ?_
        refine xT.br (fun b3 => ?_) (fun b3 => ?_)
        · rw [show (Int8.ofInt 90).toInt32 = 90 from by decide] at b3
          refine xT.s1 hM rfl rfl ?_
          exact xT.ret hM rfl rfl rfl rfl (⟨_, rfl, by rw [if_neg (by simp [x_isL, b1, Int32.not_le.mpr b3])]; rfl, rfl⟩)
        · rw [show (Int8.ofInt 90).toInt32 = 90 from by decide] at b3
          refine xT.s1 hM rfl rfl ?_
          refine xT.s1 hM rfl rfl ?_
          exact xT.ret hM rfl rfl rfl rfl (⟨_, rfl, by rw [if_pos (by simp [x_isL, Int32.not_lt.mp b2, Int32.not_lt.mp b3])]; rfl, rfl⟩)
theorem c_isLD : xT e (d + 1) 140 0 [(0, .int c)] [] h (fun o h' => ∃ v, o = .inl v ∧ v = some (.int (if (x_isL c || x_isD c) = true then 1 else 0)) ∧ h' = h) := by
  have hM : (x_mt e.1)[140]? = some xM140 := rfl
  refine xT.s1 hM rfl rfl ?_
  refine xT.go hM rfl rfl rfl rfl rfl rfl (xc_stat rfl rfl ⟨rfl, Nat.le_of_ble_eq_true rfl⟩) rfl ⟨Nat.le_of_ble_eq_true rfl, Nat.le_of_ble_eq_true rfl, by decide⟩ (c_isL) (fun v h2 hv => ?_)
  obtain ⟨rfl, hh2⟩ := hv
  subst h2
  refine xT.s1 hM rfl rfl ?_
  refine xT.br (fun b0 => ?_) (fun b0 => ?_)
  · refine xT.s1 hM rfl rfl ?_
    refine xT.go hM rfl rfl rfl rfl rfl rfl (xc_stat rfl rfl ⟨rfl, Nat.le_of_ble_eq_true rfl⟩) rfl ⟨Nat.le_of_ble_eq_true rfl, Nat.le_of_ble_eq_true rfl, by decide⟩ (c_isD) (fun v h2 hv => ?_)
    obtain ⟨rfl, hh2⟩ := hv
    subst h2
    refine xT.s1 hM rfl rfl ?_
    refine xT.br (fun b1 => ?_) (fun b1 => ?_)
    · refine xT.s1 hM rfl rfl ?_
      exact xT.ret hM rfl rfl rfl rfl (⟨_, rfl, by rw [if_neg (by simp [x_b00 b0, x_b00 b1])]; rfl, rfl⟩)
    · refine xT.s1 hM rfl rfl ?_
      refine xT.s1 hM rfl rfl ?_
      exact xT.ret hM rfl rfl rfl rfl (⟨_, rfl, by rw [if_pos (by simp [x_b01 b1])]; rfl, rfl⟩)
  · refine xT.s1 hM rfl rfl ?_
    refine xT.s1 hM rfl rfl ?_
    exact xT.ret hM rfl rfl rfl rfl (⟨_, rfl, by rw [if_pos (by simp [x_b01 b0])]; rfl, rfl⟩)
theorem c_isH : xT e (d + 1) 141 0 [(0, .int c)] [] h (fun o h' => ∃ v, o = .inl v ∧ v = some (.int (if m_hx c = true then 1 else 0)) ∧ h' = h) := by
  have hM : (x_mt e.1)[141]? = some xM141 := rfl
  refine xT.s1 hM rfl rfl ?_
  refine xT.go hM rfl rfl rfl rfl rfl rfl (xc_stat rfl rfl ⟨rfl, Nat.le_of_ble_eq_true rfl⟩) rfl ⟨Nat.le_of_ble_eq_true rfl, Nat.le_of_ble_eq_true rfl, by decide⟩ (c_isD) (fun v h2 hv => ?_)
  obtain ⟨rfl, hh2⟩ := hv
  subst h2
  refine xT.s1 hM rfl rfl ?_
  refine xT.br (fun b0 => ?_) (fun b0 => ?_)
  · refine xT.s1 hM rfl rfl ?_
    refine xT.s1 hM rfl rfl ?_
    refine xT.s1 hM rfl rfl ?_
    refine xT.br (fun b1 => ?_) (fun b1 => ?_)
    · rw [show (Int8.ofInt 65).toInt32 = 65 from by decide] at b1
      refine xT.s1 hM rfl rfl ?_
      exact xT.ret hM rfl rfl rfl rfl (⟨_, rfl, by rw [if_neg (by simp [m_hx, x_b00 b0, Int32.not_le.mpr b1])]; rfl, rfl⟩)
    · rw [show (Int8.ofInt 65).toInt32 = 65 from by decide] at b1
      refine xT.s1 hM rfl rfl ?_
      refine xT.s1 hM rfl rfl ?_
      refine xT.s1 hM rfl rfl ?_
      refine xT.br (fun b2 => ?_) (fun b2 => ?_)
      · rw [show (Int8.ofInt 70).toInt32 = 70 from by decide] at b2
        refine xT.s1 hM rfl rfl ?_
        exact xT.ret hM rfl rfl rfl rfl (⟨_, rfl, by rw [if_neg (by simp [m_hx, x_b00 b0, Int32.not_le.mpr b2])]; rfl, rfl⟩)
      · rw [show (Int8.ofInt 70).toInt32 = 70 from by decide] at b2
        refine xT.s1 hM rfl rfl ?_
        refine xT.s1 hM rfl rfl ?_
        exact xT.ret hM rfl rfl rfl rfl (⟨_, rfl, by rw [if_pos (by simp [m_hx, Int32.not_lt.mp b1, Int32.not_lt.mp b2])]; rfl, rfl⟩)
  · refine xT.s1 hM rfl rfl ?_
    refine xT.s1 hM rfl rfl ?_
    exact xT.ret hM rfl rfl rfl rfl (⟨_, rfl, by rw [if_pos (by simp [m_hx, x_b01 b0])]; rfl, rfl⟩)
end XCL
