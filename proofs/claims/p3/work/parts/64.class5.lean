/-! the class: advance and start -/
section XCB
variable {e : xE} {d qt qb ql th ta len kp bh eh ba ea : Nat} {F : List Value} {gb gl : Nat → Int32} {h : ab_H} {kh ka : Int32}
/-- the token here is what was ahead; ahead is a new one -/
def c_AQ (h : ab_H) (qt qb ql th ta : Nat) (F : List Value) (gb : Nat → Int32) (len : Nat) (ka : Int32) (ba ea : Nat) (v : Option Value) (h' : ab_H) : Prop := v = none ∧ ∃ (F' : List Value) (gl' : Nat → Int32) (kp' : Nat) (kd : Int32) (b en : Nat), c_T h' qt qb ql ta th F' gb gl' len kp' ∧ c_K h' ta ka ba ea ∧ c_K h' th kd b en ∧ c_ok kd b en len ∧ ea ≤ b ∧ b ≤ len ∧ (∀ k, k ≠ qt → k ≠ ql → k ≠ th → h'[k]? = h[k]?) ∧ h'.length = h.length ∧ ab_sz h' = ab_sz h
theorem c_advance (hE : e.1 = .null ∨ ∃ w, e.1 = .float w) (hT : c_T h qt qb ql th ta F gb gl len kp) (hH : c_K h th kh bh eh) (hA : c_K h ta ka ba ea) (hht : th ≠ ta) (hea : ea ≤ len) : xT e (d + 7) 126 0 [(0, .ref qt)] [] h (fun o h' => ∃ v, o = .inl v ∧ c_AQ h qt qb ql th ta F gb len ka ba ea v h') := by
  have hM : (x_mt e.1)[126]? = some xM126 := rfl
  obtain ⟨ht, lt, t0, t1, t2, t3, t4, t5, hb8, hl8, k4, l4, hne⟩ := id hT
  obtain ⟨Fa, a0, a1, a2, a3, a4, ⟨y3, a5⟩, ⟨y4, a6⟩, ⟨y5, a7⟩⟩ := id hA
  obtain ⟨Fh, q0, q1, q2, q3, q5, ⟨x3, q6⟩, ⟨x4, q7⟩, ⟨x5, q8⟩⟩ := id hH
  have a00 := a0
  refine xT.s1 hM rfl rfl ?_
  refine xT.s2 hM rfl rfl (x2_get rfl (Or.inl rfl) ht t4) ?_
  refine xT.s1 hM rfl rfl ?_
  refine xT.s1 hM rfl rfl ?_
  refine xT.s1 hM rfl rfl ?_
  refine xT.s2 hM rfl rfl (x2_get rfl (Or.inl rfl) ht t5) ?_
  refine xT.put hM rfl rfl ht (Or.inl rfl) (by rw [lt]; decide) (rfl) (Or.inl rfl) (fun h_1 F_1 eF1 eh1 up1 fb1 fo1 fl1 => ?_)
  replace hb8 := (up1.2.1 _ (x_neq hb8 ht (by simp))).trans hb8
  replace hl8 := (up1.2.1 _ (x_neq hl8 ht (by simp))).trans hl8
  replace q0 := (up1.2.1 _ (x_neq q0 ht (by simp))).trans q0
  replace a0 := (up1.2.1 _ (x_neq a0 ht (by simp))).trans a0
  replace ht := up1.1
  replace lt := fl1.trans lt
  replace t0 := (fo1 0 (by decide)).trans t0
  replace t1 := (fo1 1 (by decide)).trans t1
  replace t2 := (fo1 2 (by decide)).trans t2
  replace t3 := (fo1 3 (by decide)).trans t3
  replace t5 := (fo1 5 (by decide)).trans t5
  replace t4 := fb1
  refine xT.s1 hM rfl rfl ?_
  refine xT.s1 hM rfl rfl ?_
  refine xT.put hM rfl rfl ht (Or.inl rfl) (by rw [lt]; decide) (rfl) (Or.inl rfl) (fun h_2 F_2 eF2 eh2 up2 fb2 fo2 fl2 => ?_)
  replace hb8 := (up2.2.1 _ (x_neq hb8 ht (by simp))).trans hb8
  replace hl8 := (up2.2.1 _ (x_neq hl8 ht (by simp))).trans hl8
  replace q0 := (up2.2.1 _ (x_neq q0 ht (by simp))).trans q0
  replace a0 := (up2.2.1 _ (x_neq a0 ht (by simp))).trans a0
  replace ht := up2.1
  replace lt := fl2.trans lt
  replace t0 := (fo2 0 (by decide)).trans t0
  replace t1 := (fo2 1 (by decide)).trans t1
  replace t2 := (fo2 2 (by decide)).trans t2
  replace t3 := (fo2 3 (by decide)).trans t3
  replace t4 := (fo2 4 (by decide)).trans t4
  replace t5 := fb2
  refine xT.s1 hM rfl rfl ?_
  refine xT.s2 hM rfl rfl (x2_get rfl (Or.inl rfl) ht t5) ?_
  refine xT.s1 hM rfl rfl ?_
  refine xT.s1 hM rfl rfl ?_
  refine xT.s2 hM rfl rfl (x2_get rfl (Or.inl rfl) ht t4) ?_
  refine xT.s2 hM rfl rfl (x2_get rfl (Or.inl rfl) a0 a4) ?_
  have hT2 : c_T h_2 qt qb ql ta th F_2 gb gl len kp := ⟨ht, lt, t0, t1, t2, t3, t4, t5, hb8, hl8, k4, l4, hne⟩
  refine xT.go hM rfl rfl rfl rfl rfl rfl (xc_virt rfl rfl rfl ht ⟨rfl, Nat.le_of_ble_eq_true rfl, rfl, Or.inl rfl⟩) rfl ⟨Nat.le_of_ble_eq_true rfl, Nat.le_of_ble_eq_true rfl, by decide⟩ (c_blanks hT2 (by omega)) (fun v hx hv => ?_)
  obtain ⟨⟨b, rfl, l1, l2⟩, hhx⟩ := hv
  subst hx
  have l3 := l2 hea
  refine xT.put hM rfl rfl q0 (Or.inl rfl) (by rw [q1]; decide) (rfl) (Or.inl rfl) (fun h_3 F_3 eF3 eh3 up3 fb3 fo3 fl3 => ?_)
  replace ht := (up3.2.1 _ (x_neq ht q0 (by simp))).trans ht
  replace hb8 := (up3.2.1 _ (x_neq hb8 q0 (by simp))).trans hb8
  replace hl8 := (up3.2.1 _ (x_neq hl8 q0 (by simp))).trans hl8
  replace a0 := (up3.2.1 _ (Ne.symm hht)).trans a0
  replace q0 := up3.1
  replace q1 := fl3.trans q1
  replace q2 := (fo3 0 (by decide)).trans q2
  replace q5 := (fo3 2 (by decide)).trans q5
  replace q6 := (fo3 3 (by decide)).trans q6
  replace q7 := (fo3 4 (by decide)).trans q7
  replace q8 := (fo3 5 (by decide)).trans q8
  replace q3 := fb3
  refine xT.s1 hM rfl rfl ?_
  refine xT.s2 hM rfl rfl (x2_get rfl (Or.inl rfl) ht t5) ?_
  refine xT.s1 hM rfl rfl ?_
  refine xT.s2 hM rfl rfl (x2_get rfl (Or.inl rfl) ht t2) ?_
  refine xT.put hM rfl rfl q0 (Or.inl rfl) (by rw [q1]; decide) (rfl) (Or.inl rfl) (fun h_4 F_4 eF4 eh4 up4 fb4 fo4 fl4 => ?_)
  replace ht := (up4.2.1 _ (x_neq ht q0 (by simp))).trans ht
  replace hb8 := (up4.2.1 _ (x_neq hb8 q0 (by simp))).trans hb8
  replace hl8 := (up4.2.1 _ (x_neq hl8 q0 (by simp))).trans hl8
  replace a0 := (up4.2.1 _ (Ne.symm hht)).trans a0
  replace q0 := up4.1
  replace q1 := fl4.trans q1
  replace q2 := (fo4 0 (by decide)).trans q2
  replace q3 := (fo4 1 (by decide)).trans q3
  replace q5 := (fo4 2 (by decide)).trans q5
  replace q7 := (fo4 4 (by decide)).trans q7
  replace q8 := (fo4 5 (by decide)).trans q8
  replace q6 := fb4
  refine xT.s1 hM rfl rfl ?_
  refine xT.s2 hM rfl rfl (x2_get rfl (Or.inl rfl) ht t5) ?_
  refine xT.s1 hM rfl rfl ?_
  refine xT.put hM rfl rfl q0 (Or.inl rfl) (by rw [q1]; decide) (rfl) (Or.inl rfl) (fun h_5 F_5 eF5 eh5 up5 fb5 fo5 fl5 => ?_)
  replace ht := (up5.2.1 _ (x_neq ht q0 (by simp))).trans ht
  replace hb8 := (up5.2.1 _ (x_neq hb8 q0 (by simp))).trans hb8
  replace hl8 := (up5.2.1 _ (x_neq hl8 q0 (by simp))).trans hl8
  replace a0 := (up5.2.1 _ (Ne.symm hht)).trans a0
  replace q0 := up5.1
  replace q1 := fl5.trans q1
  replace q2 := (fo5 0 (by decide)).trans q2
  replace q3 := (fo5 1 (by decide)).trans q3
  replace q5 := (fo5 2 (by decide)).trans q5
  replace q6 := (fo5 3 (by decide)).trans q6
  replace q7 := (fo5 4 (by decide)).trans q7
  replace q8 := fb5
  refine xT.s1 hM rfl rfl ?_
  refine xT.s2 hM rfl rfl (x2_get rfl (Or.inl rfl) ht t5) ?_
  refine xT.s1 hM rfl rfl ?_
  refine xT.s1 hM rfl rfl ?_
  refine xT.s2 hM rfl rfl (x2_get rfl (Or.inl rfl) ht t3) ?_
  have fr5 : ∀ k, k ≠ qt → k ≠ th → h_5[k]? = h[k]? := fun k n1 n2 => (up5.2.1 k n2).trans ((up4.2.1 k n2).trans ((up3.2.1 k n2).trans ((up2.2.1 k n1).trans (up1.2.1 k n1))))
  have ln5 : h_5.length = h.length := by rw [up5.2.2.1, up4.2.2.1, up3.2.2.1, up2.2.2.1, up1.2.2.1]
  have sz5 : ab_sz h_5 = ab_sz h := by rw [up5.2.2.2, up4.2.2.2, up3.2.2.2, up2.2.2.2, up1.2.2.2]
  have hZ : c_Z h_5 h_5 qt qb ql ta th F_2 F_2 gb gl len kp kh b eh := ⟨⟨ht, lt, t0, t1, t2, t3, t4, t5, hb8, hl8, k4, l4, hne⟩, ⟨_, q0, q1, q2, q3, q5, ⟨_, q6⟩, ⟨_, q7⟩, ⟨_, q8⟩⟩, fun _ _ _ _ => rfl, rfl, rfl, fun _ _ => rfl⟩
  refine xT.go hM rfl rfl rfl rfl rfl rfl (xc_virt rfl rfl rfl q0 ⟨rfl, Nat.le_of_ble_eq_true rfl, rfl, Or.inl rfl⟩) rfl ⟨Nat.le_of_ble_eq_true rfl, Nat.le_of_ble_eq_true rfl, by decide⟩ (c_accZ (y := len) hZ) (fun v h6 hv => ?_)
  obtain ⟨rfl, hZ⟩ := hv
  have tail : ∀ (hz : ab_H) (F' : List Value) (gl' : Nat → Int32) (kp' : Nat) (kd : Int32) (en : Nat), c_Z h_5 hz qt qb ql ta th F_2 F' gb gl' len kp' kd b en → c_ok kd b en len → xT e (d + 7) 126 179 [(0, .ref qt)] [] hz (fun o h' => ∃ v, o = .inl v ∧ c_AQ h qt qb ql th ta F gb len ka ba ea v h') := by
    intro hz F' gl' kp' kd en hZ hok
    obtain ⟨ht, lt, t0, t1, t2, t3, t4, t5, hb8, hl8, k4, l4, hne⟩ := id hZ.1
    obtain ⟨Fk, q0, q1, q2, q3, q5, ⟨x3, q6⟩, ⟨x4, q7⟩, ⟨x5, q8⟩⟩ := id hZ.2.1
    refine xT.s1 hM rfl rfl ?_
    refine xT.s2 hM rfl rfl (x2_get rfl (Or.inl rfl) ht t5) ?_
    refine xT.s1 hM rfl rfl ?_
    refine xT.s2 hM rfl rfl (x2_get rfl (Or.inl rfl) ht t2) ?_
    refine xT.s1 hM rfl rfl ?_
    refine xT.s2 hM rfl rfl (x2_get rfl (Or.inl rfl) ht t5) ?_
    refine xT.s2 hM rfl rfl (x2_get rfl (Or.inl rfl) q0 q6) ?_
    refine xT.s1 hM rfl rfl ?_
    refine xT.put hM rfl rfl q0 (Or.inl rfl) (by rw [q1]; decide) (rfl) (Or.inl rfl) (fun h_6 F_6 eF6 eh6 up6 fb6 fo6 fl6 => ?_)
    replace ht := (up6.2.1 _ (x_neq ht q0 (by simp))).trans ht
    replace hb8 := (up6.2.1 _ (x_neq hb8 q0 (by simp))).trans hb8
    replace hl8 := (up6.2.1 _ (x_neq hl8 q0 (by simp))).trans hl8
    replace q0 := up6.1
    replace q1 := fl6.trans q1
    replace q2 := (fo6 0 (by decide)).trans q2
    replace q3 := (fo6 1 (by decide)).trans q3
    replace q5 := (fo6 2 (by decide)).trans q5
    replace q6 := (fo6 3 (by decide)).trans q6
    replace q8 := (fo6 5 (by decide)).trans q8
    replace q7 := fb6
    have frz : ∀ k, k ≠ qt → k ≠ ql → k ≠ th → h_6[k]? = h[k]? := fun k n1 n2 n3 => (up6.2.1 k n3).trans ((hZ.2.2.1 k n1 n2 n3).trans (fr5 k n1 n3))
    have hTA : c_K h_6 ta ka ba ea := ⟨Fa, (frz ta (x_neq a00 hT.1 (by simp)) (x_neq a00 hT.2.2.2.2.2.2.2.2.2.1 (by simp)) (Ne.symm hht)).trans a00, a1, a2, a3, a4, ⟨_, a5⟩, ⟨_, a6⟩, ⟨_, a7⟩⟩
    exact xT.ret hM rfl rfl rfl rfl (⟨_, rfl, rfl, _, _, _, kd, b, en, ⟨ht, lt, t0, t1, t2, t3, t4, t5, hb8, hl8, k4, l4, hne⟩, hTA, ⟨_, q0, q1, q2, q3, q5, ⟨_, q6⟩, ⟨_, q7⟩, ⟨_, q8⟩⟩, hok, l1, l3, frz, by rw [up6.2.2.1, hZ.2.2.2.1, ln5], by rw [up6.2.2.2, hZ.2.2.2.2.1, sz5]⟩)
  have ft5 : F_2[5]? = some (.ref th) := t5
  obtain ⟨ht, lt, t0, t1, t2, t3, t4, t5, hb8, hl8, k4, l4, hne⟩ := id hZ.1
  obtain ⟨Fk, q0, q1, q2, q3, q5, ⟨x3, q6⟩, ⟨x4, q7⟩, ⟨x5, q8⟩⟩ := id hZ.2.1
  refine xT.s1 hM rfl rfl ?_
  refine xT.s1 hM rfl rfl ?_
  refine xT.s2 hM rfl rfl (x2_get rfl (Or.inl rfl) ht t5) ?_
  refine xT.s2 hM rfl rfl (x2_get rfl (Or.inl rfl) q0 q3) ?_
  refine xT.go hM rfl rfl rfl rfl rfl rfl (xc_virt rfl rfl rfl ht ⟨rfl, Nat.le_of_ble_eq_true rfl, rfl, Or.inl rfl⟩) rfl ⟨Nat.le_of_ble_eq_true rfl, Nat.le_of_ble_eq_true rfl, by decide⟩ (c_at hZ.1 (k := b) (by omega)) (fun v h2 hv => ?_)
  obtain ⟨rfl, hh2⟩ := hv
  subst h2
  refine xT.s1 hM rfl rfl ?_
  refine xT.s1 hM rfl rfl ?_
  refine xT.s1 hM rfl rfl ?_
  refine xT.br (fun b0 => ?_) (fun b0 => ?_)
  · have hb : b < len := x_byIn (fun z => by rw [z] at b0; exact absurd b0 (by decide))
    refine xT.s1 hM rfl rfl ?_
    refine xT.go hM rfl rfl rfl rfl rfl rfl (xc_stat rfl rfl ⟨rfl, Nat.le_of_ble_eq_true rfl⟩) rfl ⟨Nat.le_of_ble_eq_true rfl, Nat.le_of_ble_eq_true rfl, by decide⟩ (c_isL) (fun v h2 hv => ?_)
    obtain ⟨rfl, hh2⟩ := hv
    subst h2
    refine xT.s1 hM rfl rfl ?_
    refine xT.br (fun b1 => ?_) (fun b1 => ?_)
    · refine xT.s1 hM rfl rfl ?_
      refine xT.go hM rfl rfl rfl rfl rfl rfl (xc_stat rfl rfl ⟨rfl, Nat.le_of_ble_eq_true rfl⟩) rfl ⟨Nat.le_of_ble_eq_true rfl, Nat.le_of_ble_eq_true rfl, by decide⟩ (c_isD) (fun v h2 hv => ?_)
      obtain ⟨rfl, hh2⟩ := hv
      subst h2
      refine xT.s1 hM rfl rfl ?_
      refine xT.br (fun b2 => ?_) (fun b2 => ?_)
      · refine xT.s1 hM rfl rfl ?_
        refine xT.s1 hM rfl rfl ?_
        refine xT.s1 hM rfl rfl ?_
        refine xT.br (fun b3 => ?_) (fun b3 => ?_)
        · refine xT.s1 hM rfl rfl ?_
          refine xT.s1 hM rfl rfl ?_
          refine xT.s2 hM rfl rfl (x2_get rfl (Or.inl rfl) ht t5) ?_
          refine xT.go hM rfl rfl rfl rfl rfl rfl (xc_virt rfl rfl rfl ht ⟨rfl, Nat.le_of_ble_eq_true rfl, rfl, Or.inl rfl⟩) rfl ⟨Nat.le_of_ble_eq_true rfl, Nat.le_of_ble_eq_true rfl, by decide⟩ (c_string hZ rfl rfl hb) (fun v h7 hv => ?_)
          obtain ⟨rfl, F7, gl7, kp7, kd7, en7, hZ2, hok⟩ := hv
          refine xT.s1 hM rfl rfl ?_
          exact xT.weak (L' := [(2, _), (1, _), (0, _)]) ⟨by simp, by simp⟩ (tail _ _ _ _ _ _ hZ2 hok)
        · refine xT.s1 hM rfl rfl ?_
          refine xT.s1 hM rfl rfl ?_
          refine xT.s1 hM rfl rfl ?_
          refine xT.br (fun b4 => ?_) (fun b4 => ?_)
          · refine xT.s1 hM rfl rfl ?_
            refine xT.s1 hM rfl rfl ?_
            refine xT.s2 hM rfl rfl (x2_get rfl (Or.inl rfl) ht t5) ?_
            refine xT.go hM rfl rfl rfl rfl rfl rfl (xc_virt rfl rfl rfl ht ⟨rfl, Nat.le_of_ble_eq_true rfl, rfl, Or.inl rfl⟩) rfl ⟨Nat.le_of_ble_eq_true rfl, Nat.le_of_ble_eq_true rfl, by decide⟩ (c_digits hZ rfl rfl hb) (fun v h7 hv => ?_)
            obtain ⟨rfl, F7, gl7, kp7, kd7, en7, hZ2, hok⟩ := hv
            refine xT.s1 hM rfl rfl ?_
            exact xT.weak (L' := [(2, _), (1, _), (0, _)]) ⟨by simp, by simp⟩ (tail _ _ _ _ _ _ hZ2 hok)
          · refine xT.s1 hM rfl rfl ?_
            refine xT.s1 hM rfl rfl ?_
            refine xT.s2 hM rfl rfl (x2_get rfl (Or.inl rfl) ht t5) ?_
            refine xT.s1 hM rfl rfl ?_
            refine xT.go hM rfl rfl rfl rfl rfl rfl (xc_virt rfl rfl rfl ht ⟨rfl, Nat.le_of_ble_eq_true rfl, rfl, Or.inl rfl⟩) rfl ⟨Nat.le_of_ble_eq_true rfl, Nat.le_of_ble_eq_true rfl, by decide⟩ (c_sign hZ rfl rfl hb) (fun v h7 hv => ?_)
            obtain ⟨rfl, F7, gl7, kp7, kd7, en7, hZ2, hok⟩ := hv
            exact xT.weak (L' := [(2, _), (1, _), (0, _)]) ⟨by simp, by simp⟩ (tail _ _ _ _ _ _ hZ2 hok)
      · refine xT.s1 hM rfl rfl ?_
        refine xT.s1 hM rfl rfl ?_
        refine xT.s2 hM rfl rfl (x2_get rfl (Or.inl rfl) ht t5) ?_
        refine xT.go hM rfl rfl rfl rfl rfl rfl (xc_virt rfl rfl rfl ht ⟨rfl, Nat.le_of_ble_eq_true rfl, rfl, Or.inl rfl⟩) rfl ⟨Nat.le_of_ble_eq_true rfl, Nat.le_of_ble_eq_true rfl, by decide⟩ (c_numeral hZ rfl rfl hb (x_b01 b2)) (fun v h7 hv => ?_)
        obtain ⟨rfl, F7, gl7, kp7, kd7, en7, hZ2, hok⟩ := hv
        refine xT.s1 hM rfl rfl ?_
        exact xT.weak (L' := [(2, _), (1, _), (0, _)]) ⟨by simp, by simp⟩ (tail _ _ _ _ _ _ hZ2 hok)
    · refine xT.s1 hM rfl rfl ?_
      refine xT.s1 hM rfl rfl ?_
      refine xT.s2 hM rfl rfl (x2_get rfl (Or.inl rfl) ht t5) ?_
      refine xT.go hM rfl rfl rfl rfl rfl rfl (xc_virt rfl rfl rfl ht ⟨rfl, Nat.le_of_ble_eq_true rfl, rfl, Or.inl rfl⟩) rfl ⟨Nat.le_of_ble_eq_true rfl, Nat.le_of_ble_eq_true rfl, by decide⟩ (c_word hE hZ rfl rfl hb (x_b01 b1)) (fun v h7 hv => ?_)
      obtain ⟨rfl, F7, gl7, kp7, kd7, en7, hZ2, hok⟩ := hv
      refine xT.s1 hM rfl rfl ?_
      exact xT.weak (L' := [(2, _), (1, _), (0, _)]) ⟨by simp, by simp⟩ (tail _ _ _ _ _ _ hZ2 hok)
  · refine xT.s1 hM rfl rfl ?_
    refine xT.s2 hM rfl rfl (x2_get rfl (Or.inl rfl) ht t5) ?_
    refine xT.s1 hM rfl rfl ?_
    refine xT.s1 hM rfl rfl ?_
    refine xT.s2 hM rfl rfl (x2_get rfl (Or.inl rfl) ht t3) ?_
    refine xT.go hM rfl rfl rfl rfl rfl rfl (xc_virt rfl rfl rfl q0 ⟨rfl, Nat.le_of_ble_eq_true rfl, rfl, Or.inl rfl⟩) rfl ⟨Nat.le_of_ble_eq_true rfl, Nat.le_of_ble_eq_true rfl, by decide⟩ (c_accZ (y := len) hZ) (fun v h7 hv => ?_)
    obtain ⟨rfl, hZ2⟩ := hv
    have hok : c_ok _ b len len := Or.inl ⟨Or.inl rfl, rfl⟩
    refine xT.s1 hM rfl rfl ?_
    exact xT.weak (L' := [(2, _), (1, _), (0, _)]) ⟨by simp, by simp⟩ (tail _ _ _ _ _ _ hZ2 hok)
end XCB
