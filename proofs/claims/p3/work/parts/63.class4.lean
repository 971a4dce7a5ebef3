/-! the class: numerals, digits, advance -/
section XCA
variable {e : xE} {d qt qb ql th ta len kp b en p : Nat} {F F0 : List Value} {gb gl : Nat → Int32} {h h0 : ab_H} {kd c : Int32}
theorem c_nmLoop {Q : ab_O → ab_H → Prop} (hZ : c_Z h0 h qt qb ql th ta F0 F gb gl len kp kd b en) : ∀ (m p : Nat) (fi : Int32) (va : Int64), len - p < m → p ≤ len → (∀ (p' : Nat) (fi' : Int32) (va' : Int64), p ≤ p' → p' ≤ len → (x_isD (x_by gb len p) = true → p < p') → xT e (d + 1) 129 92 [(5, .int fi'), (3, .long va'), (2, .int (nI p')), (0, .ref qt), (1, .ref ta)] [] h Q) → xT e (d + 1) 129 10 [(5, .int fi), (3, .long va), (2, .int (nI p)), (0, .ref qt), (1, .ref ta)] [] h Q := by
  have hM : (x_mt e.1)[129]? = some xM129 := rfl
  obtain ⟨ht, lt, t0, t1, t2, t3, t4, t5, hb8, hl8, k4, l4, hne⟩ := id hZ.1
  obtain ⟨Fk, q0, q1, q2, q3, q5, ⟨x3, q6⟩, ⟨x4, q7⟩, ⟨x5, q8⟩⟩ := id hZ.2.1
  intro m
  induction m with
  | zero => intro p fi va m1; omega
  | succ m ih =>
    intro p fi va m1 m2 k
    refine xT.s1 hM rfl rfl ?_
    refine xT.s1 hM rfl rfl ?_
    refine xT.s2 hM rfl rfl (x2_get rfl (Or.inl rfl) ht t3) ?_
    refine xT.s1 hM rfl rfl ?_
    refine xT.br (fun b0 => ?_) (fun b0 => ?_)
    · exact k p fi va (Nat.le_refl _) m2 (fun z => absurd (x_isD_by z) (by have := (nI_leI (by omega) (by omega)).mp b0; omega))
    · refine xT.s1 hM rfl rfl ?_
      refine xT.s1 hM rfl rfl ?_
      refine xT.go hM rfl rfl rfl rfl rfl rfl (xc_virt rfl rfl rfl ht ⟨rfl, Nat.le_of_ble_eq_true rfl, rfl, Or.inl rfl⟩) rfl ⟨Nat.le_of_ble_eq_true rfl, Nat.le_of_ble_eq_true rfl, by decide⟩ (c_at hZ.1 (k := p) (by omega)) (fun v h2 hv => ?_)
      obtain ⟨rfl, hh2⟩ := hv
      subst h2
      refine xT.go hM rfl rfl rfl rfl rfl rfl (xc_stat rfl rfl ⟨rfl, Nat.le_of_ble_eq_true rfl⟩) rfl ⟨Nat.le_of_ble_eq_true rfl, Nat.le_of_ble_eq_true rfl, by decide⟩ (c_isD) (fun v h2 hv => ?_)
      obtain ⟨rfl, hh2⟩ := hv
      subst h2
      refine xT.s1 hM rfl rfl ?_
      refine xT.br (fun b1 => ?_) (fun b1 => ?_)
      · exact k p fi va (Nat.le_refl _) m2 (fun z => absurd z (x_b00 b1))
      · have hlt := x_isD_by (x_b01 b1)
        refine xT.s1 hM rfl rfl ?_
        refine xT.s1 hM rfl rfl ?_
        refine xT.go hM rfl rfl rfl rfl rfl rfl (xc_virt rfl rfl rfl ht ⟨rfl, Nat.le_of_ble_eq_true rfl, rfl, Or.inl rfl⟩) rfl ⟨Nat.le_of_ble_eq_true rfl, Nat.le_of_ble_eq_true rfl, by decide⟩ (c_at hZ.1 (k := p) (by omega)) (fun v h2 hv => ?_)
        obtain ⟨rfl, hh2⟩ := hv
        subst h2
        refine xT.s1 hM rfl rfl ?_
        refine xT.s1 hM rfl rfl ?_
        generalize x_by gb len p - (Int8.ofInt 48).toInt32 = dg
        refine xT.s1 hM rfl rfl ?_
        have j65 : ∀ f : Int32, xT e (d + 1) 129 65 [(6, .int dg), (5, .int fi), (3, .long va), (2, .int (nI p)), (0, .ref qt), (1, .ref ta)] [.int f] h Q := by
          intro f
          refine xT.s1 hM rfl rfl ?_
          have j85 : ∀ v2 : Int64, xT e (d + 1) 129 85 [(5, .int f), (6, .int dg), (3, .long va), (2, .int (nI p)), (0, .ref qt), (1, .ref ta)] [.long v2] h Q := by
            intro v2
            refine xT.s1 hM rfl rfl ?_
            refine xT.s1 hM rfl rfl ?_
            rw [show nI p + Int32.ofInt 1 = nI (p + 1) from nI_add p 1]
            refine xT.s1 hM rfl rfl ?_
            exact xT.weak (L' := [(2, _), (3, _), (5, _), (6, _), (0, _), (1, _)]) ⟨by simp, by simp⟩ (ih (p + 1) f v2 (by omega) (by omega) (fun p' fi' va' w1 w2 w3 => k p' fi' va' (by omega) w2 (fun _ => by omega)))
          refine xT.s1 hM rfl rfl ?_
          refine xT.s1 hM rfl rfl ?_
          refine xT.br (fun b4 => ?_) (fun b4 => ?_)
          · refine xT.s1 hM rfl rfl ?_
            exact j85 _
          · refine xT.s1 hM rfl rfl ?_
            refine xT.s2 hM rfl rfl rfl ?_
            refine xT.s1 hM rfl rfl ?_
            refine xT.s1 hM rfl rfl ?_
            refine xT.s1 hM rfl rfl ?_
            refine xT.s1 hM rfl rfl ?_
            refine xT.s1 hM rfl rfl ?_
            exact j85 _
        refine xT.s1 hM rfl rfl ?_
        refine xT.s1 hM rfl rfl ?_
        refine xT.br (fun b2 => ?_) (fun b2 => ?_)
        · refine xT.s1 hM rfl rfl ?_
          exact j65 _
        · refine xT.s1 hM rfl rfl ?_
          refine xT.s2 hM rfl rfl rfl ?_
          refine xT.s1 hM rfl rfl ?_
          refine xT.s1 hM rfl rfl ?_
          refine xT.s1 hM rfl rfl ?_
          refine xT.s2 hM rfl rfl rfl ?_
          refine xT.s1 hM rfl rfl ?_
          refine xT.s1 hM rfl rfl ?_
          refine xT.s1 hM rfl rfl ?_
          refine xT.br (fun b3 => ?_) (fun b3 => ?_)
          · refine xT.s1 hM rfl rfl ?_
            exact j65 _
          · refine xT.s1 hM rfl rfl ?_
            refine xT.s1 hM rfl rfl ?_
            exact j65 _
theorem c_numeral (hZ : c_Z h0 h qt qb ql th ta F0 F gb gl len kp kd b en) (hkd : kd = 27) (hen : en = len) (hb : b < len) (hdig : x_isD (x_by gb len b) = true) : xT e (d + 1) 129 0 [(0, .ref qt), (1, .ref ta)] [] h (fun o h' => ∃ v, o = .inl v ∧ v = none ∧ ∃ F' gl' kp' kd' en', c_Z h0 h' qt qb ql th ta F0 F' gb gl' len kp' kd' b en' ∧ c_ok kd' b en' len) := by
  have hM : (x_mt e.1)[129]? = some xM129 := rfl
  obtain ⟨ht, lt, t0, t1, t2, t3, t4, t5, hb8, hl8, k4, l4, hne⟩ := id hZ.1
  obtain ⟨Fk, q0, q1, q2, q3, q5, ⟨x3, q6⟩, ⟨x4, q7⟩, ⟨x5, q8⟩⟩ := id hZ.2.1
  refine xT.s1 hM rfl rfl ?_
  refine xT.s2 hM rfl rfl (x2_get rfl (Or.inl rfl) q0 q3) ?_
  refine xT.s1 hM rfl rfl ?_
  refine xT.s1 hM rfl rfl ?_
  refine xT.s1 hM rfl rfl ?_
  refine xT.s1 hM rfl rfl ?_
  refine xT.s1 hM rfl rfl ?_
  refine c_nmLoop hZ (len + 1) b _ _ (by omega) (by omega) (fun p fi va w1 w2 w3 => ?_)
  have hbp := w3 hdig
  refine xT.s1 hM rfl rfl ?_
  refine xT.s1 hM rfl rfl ?_
  refine xT.s2 hM rfl rfl (x2_get rfl (Or.inl rfl) q0 q3) ?_
  refine xT.go hM rfl rfl rfl rfl rfl rfl (xc_virt rfl rfl rfl ht ⟨rfl, Nat.le_of_ble_eq_true rfl, rfl, Or.inl rfl⟩) rfl ⟨Nat.le_of_ble_eq_true rfl, Nat.le_of_ble_eq_true rfl, by decide⟩ (c_at hZ.1 (k := b) (by omega)) (fun v h2 hv => ?_)
  obtain ⟨rfl, hh2⟩ := hv
  subst h2
  refine xT.s1 hM rfl rfl ?_
  have j120 : ∀ x : Int32, xT e (d + 1) 129 120 [(5, .int fi), (3, .long va), (2, .int (nI p)), (0, .ref qt), (1, .ref ta)] [.int x] h (fun o h' => ∃ v, o = .inl v ∧ v = none ∧ ∃ F' gl' kp' kd' en', c_Z h0 h' qt qb ql th ta F0 F' gb gl' len kp' kd' b en' ∧ c_ok kd' b en' len) := by
    intro x
    refine xT.s1 hM rfl rfl ?_
    refine xT.s1 hM rfl rfl ?_
    refine xT.s1 hM rfl rfl ?_
    refine xT.br (fun c1 => ?_) (fun c1 => ?_)
    · exact xT.ret hM rfl rfl rfl rfl (⟨_, rfl, rfl, _, _, _, _, _, hZ, Or.inl ⟨Or.inr hkd, hen⟩⟩)
    · refine xT.s1 hM rfl rfl ?_
      refine xT.s1 hM rfl rfl ?_
      refine xT.br (fun c2 => ?_) (fun c2 => ?_)
      · refine xT.s1 hM rfl rfl ?_
        refine xT.s1 hM rfl rfl ?_
        refine xT.put hM rfl rfl q0 (Or.inl rfl) (by rw [q1]; decide) (rfl) (Or.inl rfl) (fun h_1 F_1 eF eh up fb fo fl => ?_)
        replace hZ : c_Z h0 h_1 qt qb ql th ta F0 F gb gl len kp kd b en := ⟨⟨(up.2.1 _ (x_neq ht q0 (by simp))).trans ht, lt, t0, t1, t2, t3, t4, t5, (up.2.1 _ (x_neq hb8 q0 (by simp))).trans hb8, (up.2.1 _ (x_neq hl8 q0 (by simp))).trans hl8, k4, l4, hne⟩, ⟨F_1, up.1, fl.trans q1, (fo 0 (by decide)).trans q2, (fo 1 (by decide)).trans q3, (fo 2 (by decide)).trans q5, ⟨_, (fo 3 (by decide)).trans q6⟩, ⟨_, (fo 4 (by decide)).trans q7⟩, ⟨_, fb⟩⟩, fun k n1 n2 n3 => (up.2.1 k n3).trans (hZ.2.2.1 k n1 n2 n3), up.2.2.1.trans hZ.2.2.2.1, up.2.2.2.trans hZ.2.2.2.2.1, hZ.2.2.2.2.2⟩
        obtain ⟨ht, lt, t0, t1, t2, t3, t4, t5, hb8, hl8, k4, l4, hne⟩ := id hZ.1
        obtain ⟨Fk, q0, q1, q2, q3, q5, ⟨x3, q6⟩, ⟨x4, q7⟩, ⟨x5, q8⟩⟩ := id hZ.2.1
        refine xT.s1 hM rfl rfl ?_
        refine xT.s1 hM rfl rfl ?_
        refine xT.s1 hM rfl rfl ?_
        refine xT.go hM rfl rfl rfl rfl rfl rfl (xc_virt rfl rfl rfl q0 ⟨rfl, Nat.le_of_ble_eq_true rfl, rfl, Or.inl rfl⟩) rfl ⟨Nat.le_of_ble_eq_true rfl, Nat.le_of_ble_eq_true rfl, by decide⟩ (c_accZ (y := p) hZ) (fun v h2 hv => ?_)
        obtain ⟨rfl, hZ⟩ := hv
        exact xT.ret hM rfl rfl rfl rfl (⟨_, rfl, rfl, _, _, _, _, _, hZ, Or.inr ⟨by decide, by decide, hbp, w2⟩⟩)
      · exact xT.ret hM rfl rfl rfl rfl (⟨_, rfl, rfl, _, _, _, _, _, hZ, Or.inl ⟨Or.inr hkd, hen⟩⟩)
  refine xT.s1 hM rfl rfl ?_
  refine xT.br (fun d1 => ?_) (fun d1 => ?_)
  · refine xT.s1 hM rfl rfl ?_
    refine xT.s1 hM rfl rfl ?_
    refine xT.s2 hM rfl rfl (x2_get rfl (Or.inl rfl) q0 q3) ?_
    refine xT.s1 hM rfl rfl ?_
    refine xT.s1 hM rfl rfl ?_
    refine xT.s1 hM rfl rfl ?_
    refine xT.br (fun d2 => ?_) (fun d2 => ?_)
    · refine xT.s1 hM rfl rfl ?_
      exact j120 _
    · refine xT.s1 hM rfl rfl ?_
      refine xT.s1 hM rfl rfl ?_
      exact j120 _
  · refine xT.s1 hM rfl rfl ?_
    exact j120 _
theorem c_dgLoop (hkd : kd = 27) (hen : en = len) : ∀ (m p : Nat) (i bo : Int32) (F : List Value) (gl : Nat → Int32) (kp : Nat) (h : ab_H), len - p < m → b < p → p ≤ len → c_Z h0 h qt qb ql th ta F0 F gb gl len kp kd b en → xT e (d + 2) 131 16 [(4, .int i), (3, .int (nI p)), (2, .int bo), (0, .ref qt), (1, .ref ta)] [] h (fun o h' => ∃ v, o = .inl v ∧ v = none ∧ ∃ F' gl' kp' kd' en', c_Z h0 h' qt qb ql th ta F0 F' gb gl' len kp' kd' b en' ∧ c_ok kd' b en' len) := by
  have hM : (x_mt e.1)[131]? = some xM131 := rfl
  intro m
  induction m with
  | zero => intro p i bo F gl kp h m1; omega
  | succ m ih =>
    intro p i bo F gl kp h m1 m2 m3 hZ
    obtain ⟨ht, lt, t0, t1, t2, t3, t4, t5, hb8, hl8, k4, l4, hne⟩ := id hZ.1
    obtain ⟨Fk, q0, q1, q2, q3, q5, ⟨x3, q6⟩, ⟨x4, q7⟩, ⟨x5, q8⟩⟩ := id hZ.2.1
    have fin : xT e (d + 2) 131 78 [(4, .int i), (3, .int (nI p)), (2, .int bo), (0, .ref qt), (1, .ref ta)] [] h (fun o h' => ∃ v, o = .inl v ∧ v = none ∧ ∃ F' gl' kp' kd' en', c_Z h0 h' qt qb ql th ta F0 F' gb gl' len kp' kd' b en' ∧ c_ok kd' b en' len) := by
      refine xT.s1 hM rfl rfl ?_
      refine xT.s1 hM rfl rfl ?_
      refine xT.go hM rfl rfl rfl rfl rfl rfl (xc_virt rfl rfl rfl ht ⟨rfl, Nat.le_of_ble_eq_true rfl, rfl, Or.inl rfl⟩) rfl ⟨Nat.le_of_ble_eq_true rfl, Nat.le_of_ble_eq_true rfl, by decide⟩ (c_at hZ.1 (k := p) (by omega)) (fun v h2 hv => ?_)
      obtain ⟨rfl, hh2⟩ := hv
      subst h2
      refine xT.s1 hM rfl rfl ?_
      refine xT.s1 hM rfl rfl ?_
      refine xT.br (fun e0 => ?_) (fun e0 => ?_)
      · refine xT.s1 hM rfl rfl ?_
        refine xT.s1 hM rfl rfl ?_
        refine xT.s1 hM rfl rfl ?_
        refine xT.s1 hM rfl rfl ?_
        rw [show nI p + Int32.ofInt 1 = nI (p + 1) from nI_add p 1]
        refine xT.go hM rfl rfl rfl rfl rfl rfl (xc_virt rfl rfl rfl ht ⟨rfl, Nat.le_of_ble_eq_true rfl, rfl, Or.inl rfl⟩) rfl ⟨Nat.le_of_ble_eq_true rfl, Nat.le_of_ble_eq_true rfl, by decide⟩ (c_at hZ.1 (k := (p + 1)) (by omega)) (fun v h2 hv => ?_)
        obtain ⟨rfl, hh2⟩ := hv
        subst h2
        refine xT.s1 hM rfl rfl ?_
        refine xT.s1 hM rfl rfl ?_
        refine xT.s1 hM rfl rfl ?_
        refine xT.s1 hM rfl rfl ?_
        refine xT.br (fun e1 => ?_) (fun e1 => ?_)
        · have hl2 : p + 1 < len := x_byIn (fun z => by rw [z] at e1; exact absurd e1 (by decide))
          refine xT.s1 hM rfl rfl ?_
          refine xT.s1 hM rfl rfl ?_
          refine xT.s1 hM rfl rfl ?_
          refine xT.s1 hM rfl rfl ?_
          refine xT.s1 hM rfl rfl ?_
          rw [show nI p + Int32.ofInt 2 = nI (p + 2) from nI_add p 2]
          refine xT.go hM rfl rfl rfl rfl rfl rfl (xc_virt rfl rfl rfl q0 ⟨rfl, Nat.le_of_ble_eq_true rfl, rfl, Or.inl rfl⟩) rfl ⟨Nat.le_of_ble_eq_true rfl, Nat.le_of_ble_eq_true rfl, by decide⟩ (c_accZ (y := (p + 2)) hZ) (fun v h2 hv => ?_)
          obtain ⟨rfl, hZ⟩ := hv
          refine xT.s1 hM rfl rfl ?_
          exact xT.ret hM rfl rfl rfl rfl (⟨_, rfl, rfl, _, _, _, _, _, hZ, Or.inr ⟨by decide, by decide, by omega, by omega⟩⟩)
        · refine xT.s1 hM rfl rfl ?_
          refine xT.s1 hM rfl rfl ?_
          refine xT.s1 hM rfl rfl ?_
          refine xT.br (fun e2 => ?_) (fun e2 => ?_)
          · refine xT.s1 hM rfl rfl ?_
            refine xT.s1 hM rfl rfl ?_
            refine xT.br (fun e3 => ?_) (fun e3 => ?_)
            · exact xT.ret hM rfl rfl rfl rfl (⟨_, rfl, rfl, _, _, _, _, _, hZ, Or.inl ⟨Or.inr hkd, hen⟩⟩)
            · have hl2 : p + 1 < len := x_byIn (fun z => by rw [z] at e2; exact absurd e2 (by decide))
              refine xT.s1 hM rfl rfl ?_
              refine xT.s1 hM rfl rfl ?_
              refine xT.s1 hM rfl rfl ?_
              refine xT.s1 hM rfl rfl ?_
              refine xT.s1 hM rfl rfl ?_
              rw [show nI p + Int32.ofInt 2 = nI (p + 2) from nI_add p 2]
              refine xT.go hM rfl rfl rfl rfl rfl rfl (xc_virt rfl rfl rfl q0 ⟨rfl, Nat.le_of_ble_eq_true rfl, rfl, Or.inl rfl⟩) rfl ⟨Nat.le_of_ble_eq_true rfl, Nat.le_of_ble_eq_true rfl, by decide⟩ (c_accZ (y := (p + 2)) hZ) (fun v h2 hv => ?_)
              obtain ⟨rfl, hZ⟩ := hv
              exact xT.ret hM rfl rfl rfl rfl (⟨_, rfl, rfl, _, _, _, _, _, hZ, Or.inr ⟨by decide, by decide, by omega, by omega⟩⟩)
          · exact xT.ret hM rfl rfl rfl rfl (⟨_, rfl, rfl, _, _, _, _, _, hZ, Or.inl ⟨Or.inr hkd, hen⟩⟩)
      · exact xT.ret hM rfl rfl rfl rfl (⟨_, rfl, rfl, _, _, _, _, _, hZ, Or.inl ⟨Or.inr hkd, hen⟩⟩)
    refine xT.s1 hM rfl rfl ?_
    refine xT.s1 hM rfl rfl ?_
    refine xT.s1 hM rfl rfl ?_
    refine xT.br (fun c0 => ?_) (fun c0 => ?_)
    · exact fin
    · refine xT.s1 hM rfl rfl ?_
      refine xT.s1 hM rfl rfl ?_
      refine xT.go hM rfl rfl rfl rfl rfl rfl (xc_virt rfl rfl rfl ht ⟨rfl, Nat.le_of_ble_eq_true rfl, rfl, Or.inl rfl⟩) rfl ⟨Nat.le_of_ble_eq_true rfl, Nat.le_of_ble_eq_true rfl, by decide⟩ (c_at hZ.1 (k := p) (by omega)) (fun v h2 hv => ?_)
      obtain ⟨rfl, hh2⟩ := hv
      subst h2
      refine xT.go hM rfl rfl rfl rfl rfl rfl (xc_stat rfl rfl ⟨rfl, Nat.le_of_ble_eq_true rfl⟩) rfl ⟨Nat.le_of_ble_eq_true rfl, Nat.le_of_ble_eq_true rfl, by decide⟩ (c_isH) (fun v h2 hv => ?_)
      obtain ⟨rfl, hh2⟩ := hv
      subst h2
      refine xT.s1 hM rfl rfl ?_
      refine xT.br (fun c1 => ?_) (fun c1 => ?_)
      · exact fin
      · have hlt : p < len := x_byIn (fun z => by have q1 := x_b01 c1; rw [z] at q1; exact absurd q1 (by decide))
        have j54 : ∀ b2 : Int32, xT e (d + 2) 131 54 [(4, .int i), (3, .int (nI p)), (2, .int bo), (0, .ref qt), (1, .ref ta)] [.int b2] h (fun o h' => ∃ v, o = .inl v ∧ v = none ∧ ∃ F' gl' kp' kd' en', c_Z h0 h' qt qb ql th ta F0 F' gb gl' len kp' kd' b en' ∧ c_ok kd' b en' len) := by
          intro b2
          refine xT.s1 hM rfl rfl ?_
          refine xT.s1 hM rfl rfl ?_
          refine xT.s1 hM rfl rfl ?_
          refine xT.s1 hM rfl rfl ?_
          refine xT.go hM rfl rfl rfl rfl rfl rfl (xc_virt rfl rfl rfl ht ⟨rfl, Nat.le_of_ble_eq_true rfl, rfl, Or.inl rfl⟩) rfl ⟨Nat.le_of_ble_eq_true rfl, Nat.le_of_ble_eq_true rfl, by decide⟩ (c_at hZ.1 (k := p) (by omega)) (fun v h2 hv => ?_)
          obtain ⟨rfl, hh2⟩ := hv
          subst h2
          refine xT.go hM rfl rfl rfl rfl rfl rfl (xc_virt rfl rfl rfl ht ⟨rfl, Nat.le_of_ble_eq_true rfl, rfl, Or.inl rfl⟩) rfl ⟨Nat.le_of_ble_eq_true rfl, Nat.le_of_ble_eq_true rfl, by decide⟩ (c_keepZ hZ) (fun v h2 hv => ?_)
          obtain ⟨rfl, F', gl', kp', hZ⟩ := hv
          obtain ⟨ht, lt, t0, t1, t2, t3, t4, t5, hb8, hl8, k4, l4, hne⟩ := id hZ.1
          obtain ⟨Fk, q0, q1, q2, q3, q5, ⟨x3, q6⟩, ⟨x4, q7⟩, ⟨x5, q8⟩⟩ := id hZ.2.1
          refine xT.s1 hM rfl rfl ?_
          refine xT.s1 hM rfl rfl ?_
          refine xT.s1 hM rfl rfl ?_
          refine xT.s1 hM rfl rfl ?_
          rw [show nI p + Int32.ofInt 1 = nI (p + 1) from nI_add p 1]
          refine xT.go hM rfl rfl rfl rfl rfl rfl (xc_virt rfl rfl rfl ht ⟨rfl, Nat.le_of_ble_eq_true rfl, rfl, Or.inl rfl⟩) rfl ⟨Nat.le_of_ble_eq_true rfl, Nat.le_of_ble_eq_true rfl, by decide⟩ (c_blanks hZ.1 (by omega)) (fun v h3 hv => ?_)
          obtain ⟨⟨p2, rfl, l1, l2⟩, hh3⟩ := hv
          subst h3
          have l3 := l2 (by omega)
          refine xT.s1 hM rfl rfl ?_
          refine xT.s1 hM rfl rfl ?_
          refine xT.s1 hM rfl rfl ?_
          exact xT.weak (L' := [(4, _), (3, _), (2, _), (0, _), (1, _)]) ⟨by simp, by simp⟩ (ih p2 (i + Int32.ofInt 1) b2 F' gl' kp' h2 (by omega) (by omega) l3 hZ)
        refine xT.s1 hM rfl rfl ?_
        refine xT.s1 hM rfl rfl ?_
        refine xT.br (fun f1 => ?_) (fun f1 => ?_)
        · refine xT.s1 hM rfl rfl ?_
          exact j54 _
        · refine xT.s1 hM rfl rfl ?_
          refine xT.s1 hM rfl rfl ?_
          refine xT.go hM rfl rfl rfl rfl rfl rfl (xc_virt rfl rfl rfl ht ⟨rfl, Nat.le_of_ble_eq_true rfl, rfl, Or.inl rfl⟩) rfl ⟨Nat.le_of_ble_eq_true rfl, Nat.le_of_ble_eq_true rfl, by decide⟩ (c_at hZ.1 (k := p) (by omega)) (fun v h2 hv => ?_)
          obtain ⟨rfl, hh2⟩ := hv
          subst h2
          refine xT.s1 hM rfl rfl ?_
          refine xT.s1 hM rfl rfl ?_
          refine xT.br (fun f2 => ?_) (fun f2 => ?_)
          · refine xT.s1 hM rfl rfl ?_
            exact j54 _
          · refine xT.s1 hM rfl rfl ?_
            refine xT.s1 hM rfl rfl ?_
            exact j54 _
theorem c_digits (hZ : c_Z h0 h qt qb ql th ta F0 F gb gl len kp kd b en) (hkd : kd = 27) (hen : en = len) (hb : b < len) : xT e (d + 2) 131 0 [(0, .ref qt), (1, .ref ta)] [] h (fun o h' => ∃ v, o = .inl v ∧ v = none ∧ ∃ F' gl' kp' kd' en', c_Z h0 h' qt qb ql th ta F0 F' gb gl' len kp' kd' b en' ∧ c_ok kd' b en' len) := by
  have hM : (x_mt e.1)[131]? = some xM131 := rfl
  obtain ⟨ht, lt, t0, t1, t2, t3, t4, t5, hb8, hl8, k4, l4, hne⟩ := id hZ.1
  obtain ⟨Fk, q0, q1, q2, q3, q5, ⟨x3, q6⟩, ⟨x4, q7⟩, ⟨x5, q8⟩⟩ := id hZ.2.1
  refine xT.s1 hM rfl rfl ?_
  refine xT.s1 hM rfl rfl ?_
  refine xT.s1 hM rfl rfl ?_
  refine xT.s1 hM rfl rfl ?_
  refine xT.s2 hM rfl rfl (x2_get rfl (Or.inl rfl) q0 q3) ?_
  refine xT.s1 hM rfl rfl ?_
  refine xT.s1 hM rfl rfl ?_
  rw [show nI b + Int32.ofInt 1 = nI (b + 1) from nI_add b 1]
  refine xT.go hM rfl rfl rfl rfl rfl rfl (xc_virt rfl rfl rfl ht ⟨rfl, Nat.le_of_ble_eq_true rfl, rfl, Or.inl rfl⟩) rfl ⟨Nat.le_of_ble_eq_true rfl, Nat.le_of_ble_eq_true rfl, by decide⟩ (c_blanks hZ.1 (by omega)) (fun v h3 hv => ?_)
  obtain ⟨⟨p2, rfl, l1, l2⟩, hh3⟩ := hv
  subst h3
  have l3 := l2 (by omega)
  refine xT.s1 hM rfl rfl ?_
  refine xT.s1 hM rfl rfl ?_
  refine xT.s1 hM rfl rfl ?_
  exact c_dgLoop hkd hen (len + 1) p2 _ _ F gl kp h (by omega) (by omega) l3 hZ
end XCA
