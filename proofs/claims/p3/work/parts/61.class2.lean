/-! the class: letters, blanks, bytes -/
section XCM
variable {e : xE} {d qt qb ql th ta len kp k : Nat} {F : List Value} {gb gl : Nat → Int32} {h : ab_H} {c : Int32}
theorem c_letter (hT : c_T h qt qb ql th ta F gb gl len kp) : xT e d 124 0 [(0, .ref qt), (1, .int c)] [] h (fun o h' => ∃ v, o = .inl v ∧ (∃ b : Int32, v = some (.int b)) ∧ h' = h) := by
  have hM : (x_mt e.1)[124]? = some xM124 := rfl
  obtain ⟨ht, lt, t0, t1, t2, t3, t4, t5, hb8, hl8, k4, l4, hne⟩ := id hT
  refine xT.s1 hM rfl rfl ?_
  refine xT.s1 hM rfl rfl ?_
  refine xT.br (fun hb0 => ?_) (fun hb0 => ?_)
  · refine xT.s1 hM rfl rfl ?_
    exact xT.ret hM rfl rfl rfl rfl (⟨_, rfl, ⟨_, rfl⟩, rfl⟩)
  · refine xT.s1 hM rfl rfl ?_
    refine xT.s1 hM rfl rfl ?_
    refine xT.s2 hM rfl rfl (x2_get rfl (Or.inl rfl) ht t1) ?_
    refine xT.s2 hM rfl rfl (x2_alen hl8 (by decide)) ?_
    refine xT.s1 hM rfl rfl ?_
    refine xT.br (fun hb1 => ?_) (fun hb1 => ?_)
    · refine xT.s1 hM rfl rfl ?_
      exact xT.ret hM rfl rfl rfl rfl (⟨_, rfl, ⟨_, rfl⟩, rfl⟩)
    · obtain ⟨j, hj, rfl⟩ := nI_of hb0
      have hj4 : j < 4096 := Nat.lt_of_not_le (fun z => hb1 (nI_le z (by omega)))
      refine xT.s1 hM rfl rfl ?_
      refine xT.s2 hM rfl rfl (x2_get rfl (Or.inl rfl) ht t1) ?_
      refine xT.s1 hM rfl rfl ?_
      refine xT.bald hM rfl hl8 hj4 (by omega) ?_
      refine xT.s1 hM rfl rfl ?_
      exact xT.ret hM rfl rfl rfl rfl (⟨_, rfl, ⟨_, rfl⟩, rfl⟩)
theorem c_keep (hT : c_T h qt qb ql th ta F gb gl len kp) : xT e d 134 0 [(0, .ref qt), (1, .int c)] [] h (fun o h' => ∃ v, o = .inl v ∧ v = none ∧ ∃ F' gl' kp', c_T h' qt qb ql th ta F' gb gl' len kp' ∧ kp ≤ kp' ∧ (∀ i, i ≠ 2 → F'[i]? = F[i]?) ∧ (∀ k, k ≠ qt → k ≠ ql → h'[k]? = h[k]?) ∧ h'.length = h.length ∧ ab_sz h' = ab_sz h) := by
  have hM : (x_mt e.1)[134]? = some xM134 := rfl
  obtain ⟨ht, lt, t0, t1, t2, t3, t4, t5, hb8, hl8, k4, l4, hne⟩ := id hT
  refine xT.s1 hM rfl rfl ?_
  refine xT.s2 hM rfl rfl (x2_get rfl (Or.inl rfl) ht t2) ?_
  refine xT.s1 hM rfl rfl ?_
  refine xT.s2 hM rfl rfl (x2_get rfl (Or.inl rfl) ht t1) ?_
  refine xT.s2 hM rfl rfl (x2_alen hl8 (by decide)) ?_
  refine xT.s1 hM rfl rfl ?_
  refine xT.br (fun hb => ?_) (fun hb => ?_)
  · exact xT.ret hM rfl rfl rfl rfl (⟨_, rfl, rfl, F, gl, kp, hT, Nat.le_refl _, fun _ _ => rfl, fun _ _ _ => rfl, rfl, rfl⟩)
  · have hlt : kp < 4096 := Nat.lt_of_not_le (fun z => hb (nI_le z (by omega)))
    refine xT.s1 hM rfl rfl ?_
    refine xT.s2 hM rfl rfl (x2_get rfl (Or.inl rfl) ht t1) ?_
    refine xT.s1 hM rfl rfl ?_
    refine xT.s2 hM rfl rfl (x2_get rfl (Or.inl rfl) ht t2) ?_
    refine xT.s1 hM rfl rfl ?_
    refine xT.s1 hM rfl rfl ?_
    refine xT.bast hM rfl hl8 hlt (by omega) (fun h1 e1 u1 => ?_)
    rw [x_updI] at e1 u1
    replace ht := (u1.2.1 _ (x_neq ht hl8 (by simp))).trans ht
    replace hb8 := (u1.2.1 _ hne).trans hb8
    have hl8 := u1.1
    refine xT.s1 hM rfl rfl ?_
    refine xT.s1 hM rfl rfl ?_
    refine xT.s2 hM rfl rfl (x2_get rfl (Or.inl rfl) ht t2) ?_
    refine xT.s1 hM rfl rfl ?_
    refine xT.s1 hM rfl rfl ?_
    rw [show nI kp + Int32.ofInt 1 = nI (kp + 1) from nI_add kp 1]
    refine xT.put hM rfl rfl ht (Or.inl rfl) (by rw [lt]; decide) (rfl) (Or.inl rfl) (fun h_1 F_1 eF1 eh1 up1 fb1 fo1 fl1 => ?_)
    replace hb8 := (up1.2.1 _ (x_neq hb8 ht (by simp))).trans hb8
    replace hl8 := (up1.2.1 _ (x_neq hl8 ht (by simp))).trans hl8
    replace ht := up1.1
    replace lt := fl1.trans lt
    replace t0 := (fo1 0 (by decide)).trans t0
    replace t1 := (fo1 1 (by decide)).trans t1
    replace t3 := (fo1 3 (by decide)).trans t3
    replace t4 := (fo1 4 (by decide)).trans t4
    replace t5 := (fo1 5 (by decide)).trans t5
    replace t2 := fb1
    exact xT.ret hM rfl rfl rfl rfl (⟨_, rfl, rfl, _, _, kp + 1, ⟨ht, lt, t0, t1, t2, t3, t4, t5, hb8, hl8, by omega, l4, hne⟩, by omega, fo1, fun k n1 n2 => (up1.2.1 k n1).trans (u1.2.1 k n2), up1.2.2.1.trans u1.2.2.1, up1.2.2.2.trans u1.2.2.2⟩)
theorem c_put (hT : c_T h qt qb ql th ta F gb gl len kp) (hl4 : len + 4 ≤ 4096) : xT e d 123 0 [(0, .ref qt), (1, .int c)] [] h (fun o h' => ∃ v, o = .inl v ∧ v = none ∧ ∃ F' gb', c_T h' qt qb ql th ta F' gb' gl (len + 4) kp ∧ (∀ i, i ≠ 3 → F'[i]? = F[i]?) ∧ (∀ k, k ≠ qt → k ≠ qb → h'[k]? = h[k]?) ∧ h'.length = h.length ∧ ab_sz h' = ab_sz h) := by
  have hM : (x_mt e.1)[123]? = some xM123 := rfl
  obtain ⟨ht, lt, t0, t1, t2, t3, t4, t5, hb8, hl8, k4, l4, hne⟩ := id hT
  have hT0 := hT
  refine xT.s1 hM rfl rfl ?_
  refine xT.s1 hM rfl rfl ?_
  refine xT.s1 hM rfl rfl ?_
  refine xT.s1 hM rfl rfl ?_
  refine xT.brF (by decide) ?_
  refine xT.s1 hM rfl rfl ?_
  refine xT.s2 hM rfl rfl (x2_get rfl (Or.inl rfl) ht t3) ?_
  refine xT.s1 hM rfl rfl ?_
  refine xT.s2 hM rfl rfl (x2_get rfl (Or.inl rfl) ht t0) ?_
  refine xT.s2 hM rfl rfl (x2_alen hb8 (by decide)) ?_
  refine xT.s1 hM rfl rfl ?_
  refine xT.brF (nI_ge (by omega) (by omega)) ?_
  refine xT.s1 hM rfl rfl ?_
  refine xT.s2 hM rfl rfl (x2_get rfl (Or.inl rfl) ht t0) ?_
  refine xT.s1 hM rfl rfl ?_
  refine xT.s2 hM rfl rfl (x2_get rfl (Or.inl rfl) ht t3) ?_
  refine xT.s1 hM rfl rfl ?_
  refine xT.s1 hM rfl rfl ?_
  refine xT.s1 hM rfl rfl ?_
  refine xT.s1 hM rfl rfl ?_
  refine xT.bast hM rfl hb8 (by omega) (by omega) (fun k0 e0 u0 => ?_)
  rw [x_updI] at e0 u0
  replace ht := (u0.2.1 _ (x_neq ht hb8 (by simp))).trans ht
  replace hl8 := (u0.2.1 _ (Ne.symm hne)).trans hl8
  replace hb8 := u0.1
  refine xT.s1 hM rfl rfl ?_
  refine xT.s1 hM rfl rfl ?_
  refine xT.s2 hM rfl rfl (x2_get rfl (Or.inl rfl) ht t3) ?_
  refine xT.s1 hM rfl rfl ?_
  refine xT.s1 hM rfl rfl ?_
  rw [show nI (len) + Int32.ofInt 1 = nI (len + 1) from nI_add (len) 1]
  refine xT.put hM rfl rfl ht (Or.inl rfl) (by rw [lt]; decide) (rfl) (Or.inl rfl) (fun h_1 F_1 eF1 eh1 up1 fb1 fo1 fl1 => ?_)
  replace hb8 := (up1.2.1 _ (x_neq hb8 ht (by simp))).trans hb8
  replace hl8 := (up1.2.1 _ (x_neq hl8 ht (by simp))).trans hl8
  replace ht := up1.1
  replace lt := fl1.trans lt
  replace t0 := (fo1 0 (by decide)).trans t0
  replace t1 := (fo1 1 (by decide)).trans t1
  replace t2 := (fo1 2 (by decide)).trans t2
  replace t4 := (fo1 4 (by decide)).trans t4
  replace t5 := (fo1 5 (by decide)).trans t5
  replace t3 := fb1
  refine xT.s1 hM rfl rfl ?_
  refine xT.s1 hM rfl rfl ?_
  refine xT.s1 hM rfl rfl ?_
  refine xT.s1 hM rfl rfl ?_
  refine xT.brF (by decide) ?_
  refine xT.s1 hM rfl rfl ?_
  refine xT.s2 hM rfl rfl (x2_get rfl (Or.inl rfl) ht t3) ?_
  refine xT.s1 hM rfl rfl ?_
  refine xT.s2 hM rfl rfl (x2_get rfl (Or.inl rfl) ht t0) ?_
  refine xT.s2 hM rfl rfl (x2_alen hb8 (by decide)) ?_
  refine xT.s1 hM rfl rfl ?_
  refine xT.brF (nI_ge (by omega) (by omega)) ?_
  refine xT.s1 hM rfl rfl ?_
  refine xT.s2 hM rfl rfl (x2_get rfl (Or.inl rfl) ht t0) ?_
  refine xT.s1 hM rfl rfl ?_
  refine xT.s2 hM rfl rfl (x2_get rfl (Or.inl rfl) ht t3) ?_
  refine xT.s1 hM rfl rfl ?_
  refine xT.s1 hM rfl rfl ?_
  refine xT.s1 hM rfl rfl ?_
  refine xT.s1 hM rfl rfl ?_
  refine xT.bast hM rfl hb8 (by omega) (by omega) (fun k1 e1 u1 => ?_)
  rw [x_updI] at e1 u1
  replace ht := (u1.2.1 _ (x_neq ht hb8 (by simp))).trans ht
  replace hl8 := (u1.2.1 _ (Ne.symm hne)).trans hl8
  replace hb8 := u1.1
  refine xT.s1 hM rfl rfl ?_
  refine xT.s1 hM rfl rfl ?_
  refine xT.s2 hM rfl rfl (x2_get rfl (Or.inl rfl) ht t3) ?_
  refine xT.s1 hM rfl rfl ?_
  refine xT.s1 hM rfl rfl ?_
  rw [show nI (len + 1) + Int32.ofInt 1 = nI (len + 1 + 1) from nI_add (len + 1) 1]
  refine xT.put hM rfl rfl ht (Or.inl rfl) (by rw [lt]; decide) (rfl) (Or.inl rfl) (fun h_2 F_2 eF2 eh2 up2 fb2 fo2 fl2 => ?_)
  replace hb8 := (up2.2.1 _ (x_neq hb8 ht (by simp))).trans hb8
  replace hl8 := (up2.2.1 _ (x_neq hl8 ht (by simp))).trans hl8
  replace ht := up2.1
  replace lt := fl2.trans lt
  replace t0 := (fo2 0 (by decide)).trans t0
  replace t1 := (fo2 1 (by decide)).trans t1
  replace t2 := (fo2 2 (by decide)).trans t2
  replace t4 := (fo2 4 (by decide)).trans t4
  replace t5 := (fo2 5 (by decide)).trans t5
  replace t3 := fb2
  refine xT.s1 hM rfl rfl ?_
  refine xT.s1 hM rfl rfl ?_
  refine xT.s1 hM rfl rfl ?_
  refine xT.s1 hM rfl rfl ?_
  refine xT.brF (by decide) ?_
  refine xT.s1 hM rfl rfl ?_
  refine xT.s2 hM rfl rfl (x2_get rfl (Or.inl rfl) ht t3) ?_
  refine xT.s1 hM rfl rfl ?_
  refine xT.s2 hM rfl rfl (x2_get rfl (Or.inl rfl) ht t0) ?_
  refine xT.s2 hM rfl rfl (x2_alen hb8 (by decide)) ?_
  refine xT.s1 hM rfl rfl ?_
  refine xT.brF (nI_ge (by omega) (by omega)) ?_
  refine xT.s1 hM rfl rfl ?_
  refine xT.s2 hM rfl rfl (x2_get rfl (Or.inl rfl) ht t0) ?_
  refine xT.s1 hM rfl rfl ?_
  refine xT.s2 hM rfl rfl (x2_get rfl (Or.inl rfl) ht t3) ?_
  refine xT.s1 hM rfl rfl ?_
  refine xT.s1 hM rfl rfl ?_
  refine xT.s1 hM rfl rfl ?_
  refine xT.s1 hM rfl rfl ?_
  refine xT.bast hM rfl hb8 (by omega) (by omega) (fun k2 e2 u2 => ?_)
  rw [x_updI] at e2 u2
  replace ht := (u2.2.1 _ (x_neq ht hb8 (by simp))).trans ht
  replace hl8 := (u2.2.1 _ (Ne.symm hne)).trans hl8
  replace hb8 := u2.1
  refine xT.s1 hM rfl rfl ?_
  refine xT.s1 hM rfl rfl ?_
  refine xT.s2 hM rfl rfl (x2_get rfl (Or.inl rfl) ht t3) ?_
  refine xT.s1 hM rfl rfl ?_
  refine xT.s1 hM rfl rfl ?_
  rw [show nI (len + 2) + Int32.ofInt 1 = nI (len + 2 + 1) from nI_add (len + 2) 1]
  refine xT.put hM rfl rfl ht (Or.inl rfl) (by rw [lt]; decide) (rfl) (Or.inl rfl) (fun h_3 F_3 eF3 eh3 up3 fb3 fo3 fl3 => ?_)
  replace hb8 := (up3.2.1 _ (x_neq hb8 ht (by simp))).trans hb8
  replace hl8 := (up3.2.1 _ (x_neq hl8 ht (by simp))).trans hl8
  replace ht := up3.1
  replace lt := fl3.trans lt
  replace t0 := (fo3 0 (by decide)).trans t0
  replace t1 := (fo3 1 (by decide)).trans t1
  replace t2 := (fo3 2 (by decide)).trans t2
  replace t4 := (fo3 4 (by decide)).trans t4
  replace t5 := (fo3 5 (by decide)).trans t5
  replace t3 := fb3
  refine xT.s1 hM rfl rfl ?_
  refine xT.s1 hM rfl rfl ?_
  refine xT.s1 hM rfl rfl ?_
  refine xT.s1 hM rfl rfl ?_
  refine xT.brF (by decide) ?_
  refine xT.s1 hM rfl rfl ?_
  refine xT.s2 hM rfl rfl (x2_get rfl (Or.inl rfl) ht t3) ?_
  refine xT.s1 hM rfl rfl ?_
  refine xT.s2 hM rfl rfl (x2_get rfl (Or.inl rfl) ht t0) ?_
  refine xT.s2 hM rfl rfl (x2_alen hb8 (by decide)) ?_
  refine xT.s1 hM rfl rfl ?_
  refine xT.brF (nI_ge (by omega) (by omega)) ?_
  refine xT.s1 hM rfl rfl ?_
  refine xT.s2 hM rfl rfl (x2_get rfl (Or.inl rfl) ht t0) ?_
  refine xT.s1 hM rfl rfl ?_
  refine xT.s2 hM rfl rfl (x2_get rfl (Or.inl rfl) ht t3) ?_
  refine xT.s1 hM rfl rfl ?_
  refine xT.s1 hM rfl rfl ?_
  refine xT.s1 hM rfl rfl ?_
  refine xT.s1 hM rfl rfl ?_
  refine xT.bast hM rfl hb8 (by omega) (by omega) (fun k3 e3 u3 => ?_)
  rw [x_updI] at e3 u3
  replace ht := (u3.2.1 _ (x_neq ht hb8 (by simp))).trans ht
  replace hl8 := (u3.2.1 _ (Ne.symm hne)).trans hl8
  replace hb8 := u3.1
  refine xT.s1 hM rfl rfl ?_
  refine xT.s1 hM rfl rfl ?_
  refine xT.s2 hM rfl rfl (x2_get rfl (Or.inl rfl) ht t3) ?_
  refine xT.s1 hM rfl rfl ?_
  refine xT.s1 hM rfl rfl ?_
  rw [show nI (len + 3) + Int32.ofInt 1 = nI (len + 3 + 1) from nI_add (len + 3) 1]
  refine xT.put hM rfl rfl ht (Or.inl rfl) (by rw [lt]; decide) (rfl) (Or.inl rfl) (fun h_4 F_4 eF4 eh4 up4 fb4 fo4 fl4 => ?_)
  replace hb8 := (up4.2.1 _ (x_neq hb8 ht (by simp))).trans hb8
  replace hl8 := (up4.2.1 _ (x_neq hl8 ht (by simp))).trans hl8
  replace ht := up4.1
  replace lt := fl4.trans lt
  replace t0 := (fo4 0 (by decide)).trans t0
  replace t1 := (fo4 1 (by decide)).trans t1
  replace t2 := (fo4 2 (by decide)).trans t2
  replace t4 := (fo4 4 (by decide)).trans t4
  replace t5 := (fo4 5 (by decide)).trans t5
  replace t3 := fb4
  refine xT.s1 hM rfl rfl ?_
  refine xT.s1 hM rfl rfl ?_
  refine xT.s1 hM rfl rfl ?_
  refine xT.s1 hM rfl rfl ?_
  refine xT.brT (by decide) ?_
  exact xT.ret hM rfl rfl rfl rfl (⟨_, rfl, rfl, _, _, ⟨ht, lt, t0, t1, t2, t3, t4, t5, hb8, hl8, k4, by omega, hne⟩, fun i hi => (fo4 i hi).trans ((fo3 i hi).trans ((fo2 i hi).trans (fo1 i hi))), fun k n1 n2 => (up4.2.1 k n1).trans ((u3.2.1 k n2).trans ( (up3.2.1 k n1).trans ((u2.2.1 k n2).trans ( (up2.2.1 k n1).trans ((u1.2.1 k n2).trans ( (up1.2.1 k n1).trans (u0.2.1 k n2))))))), by rw [up4.2.2.1, u3.2.2.1, up3.2.2.1, u2.2.2.1, up2.2.2.1, u1.2.2.1, up1.2.2.1, u0.2.2.1], by rw [up4.2.2.2, u3.2.2.2, up3.2.2.2, u2.2.2.2, up2.2.2.2, u1.2.2.2, up1.2.2.2, u0.2.2.2]⟩)
theorem c_blLoop {cf : Int32} (hT : c_T h qt qb ql th ta F gb gl len kp) : ∀ (m p : Nat) (b : Int32), len - p < m → p ≤ 4100 → xT e (d + 1) 133 4 [(3, .int (nI (p))), (2, .int b), (0, .ref qt), (1, .int cf)] [] h (fun o h' => ∃ v, o = .inl v ∧ (∃ p', v = some (.int (nI p')) ∧ p ≤ p' ∧ (p ≤ len → p' ≤ len)) ∧ h' = h) := by
  have hM : (x_mt e.1)[133]? = some xM133 := rfl
  obtain ⟨ht, lt, t0, t1, t2, t3, t4, t5, hb8, hl8, k4, l4, hne⟩ := id hT
  intro m
  induction m with
  | zero => intro p b m1; omega
  | succ m ih =>
    intro p b m1 m2
    refine xT.s1 hM rfl rfl ?_
    refine xT.s1 hM rfl rfl ?_
    refine xT.s2 hM rfl rfl (x2_get rfl (Or.inl rfl) ht t3) ?_
    refine xT.s1 hM rfl rfl ?_
    refine xT.br (fun hb => ?_) (fun hb => ?_)
    · refine xT.s1 hM rfl rfl ?_
      exact xT.ret hM rfl rfl rfl rfl (⟨_, rfl, ⟨p, rfl, Nat.le_refl _, id⟩, rfl⟩)
    · have hlt : p < len := Nat.lt_of_not_le (fun z => hb (nI_le z (by omega)))
      refine xT.s1 hM rfl rfl ?_
      refine xT.s1 hM rfl rfl ?_
      refine xT.go hM rfl rfl rfl rfl rfl rfl (xc_virt rfl rfl rfl ht ⟨rfl, Nat.le_of_ble_eq_true rfl, rfl, Or.inl rfl⟩) rfl ⟨Nat.le_of_ble_eq_true rfl, Nat.le_of_ble_eq_true rfl, by decide⟩ (c_at hT (by omega)) (fun v h2 hv => ?_)
      obtain ⟨rfl, hh2⟩ := hv
      subst h2
      refine xT.s1 hM rfl rfl ?_
      refine xT.s1 hM rfl rfl ?_
      refine xT.s1 hM rfl rfl ?_
      have one : ∀ b' : Int32, xT e (d + 1) 133 82 [(4, .int (x_by gb len p)), (3, .int (nI p)), (2, .int b), (0, .ref qt), (1, .int cf)] [.int b'] h (fun o h' => ∃ v, o = .inl v ∧ (∃ p', v = some (.int (nI p')) ∧ p ≤ p' ∧ (p ≤ len → p' ≤ len)) ∧ h' = h) := by
        intro b'
        refine xT.s1 hM rfl rfl ?_
        refine xT.s1 hM rfl rfl ?_
        rw [show nI p + Int32.ofInt 1 = nI (p + 1) from nI_add p 1]
        refine xT.s1 hM rfl rfl ?_
        exact (xT.weak (L := [(3, .int (nI (p + 1))), (2, .int b'), (0, .ref qt), (1, .int cf)]) (L' := [(3, .int (nI (p + 1))), (2, .int b'), (4, .int (x_by gb len p)), (0, .ref qt), (1, .int cf)]) ⟨by simp, by simp⟩ (ih (p + 1) b' (by omega) (by omega))).mono (fun o h' ho => by
            obtain ⟨v, o1, ⟨p', o2, o3, o4⟩, o5⟩ := ho
            exact ⟨v, o1, ⟨p', o2, by omega, fun _ => o4 (by omega)⟩, o5⟩)
      have rest : xT e (d + 1) 133 54 [(4, .int (x_by gb len p)), (3, .int (nI p)), (2, .int b), (0, .ref qt), (1, .int cf)] [] h (fun o h' => ∃ v, o = .inl v ∧ (∃ p', v = some (.int (nI p')) ∧ p ≤ p' ∧ (p ≤ len → p' ≤ len)) ∧ h' = h) := by
        refine xT.s1 hM rfl rfl ?_
        refine xT.s1 hM rfl rfl ?_
        refine xT.br (fun b6 => ?_) (fun b6 => ?_)
        · refine xT.s1 hM rfl rfl ?_
          refine xT.go hM rfl rfl rfl rfl rfl rfl (xc_stat rfl rfl ⟨rfl, Nat.le_of_ble_eq_true rfl⟩) rfl ⟨Nat.le_of_ble_eq_true rfl, Nat.le_of_ble_eq_true rfl, by decide⟩ (c_isB) (fun v h2 hv => ?_)
          obtain ⟨rfl, hh2⟩ := hv
          subst h2
          refine xT.s1 hM rfl rfl ?_
          refine xT.br (fun b7 => ?_) (fun b7 => ?_)
          · refine xT.s1 hM rfl rfl ?_
            exact xT.ret hM rfl rfl rfl rfl (⟨_, rfl, ⟨p, rfl, Nat.le_refl _, id⟩, rfl⟩)
          · refine xT.s1 hM rfl rfl ?_
            refine xT.s1 hM rfl rfl ?_
            refine xT.br (fun b8 => ?_) (fun b8 => ?_)
            · refine xT.s1 hM rfl rfl ?_
              exact one _
            · refine xT.s1 hM rfl rfl ?_
              refine xT.s1 hM rfl rfl ?_
              refine xT.s1 hM rfl rfl ?_
              refine xT.br (fun b9 => ?_) (fun b9 => ?_)
              · refine xT.s1 hM rfl rfl ?_
                exact one _
              · refine xT.s1 hM rfl rfl ?_
                refine xT.s1 hM rfl rfl ?_
                exact one _
        · refine xT.s1 hM rfl rfl ?_
          refine xT.s1 hM rfl rfl ?_
          refine xT.br (fun b8 => ?_) (fun b8 => ?_)
          · refine xT.s1 hM rfl rfl ?_
            exact one _
          · refine xT.s1 hM rfl rfl ?_
            refine xT.s1 hM rfl rfl ?_
            refine xT.s1 hM rfl rfl ?_
            refine xT.br (fun b9 => ?_) (fun b9 => ?_)
            · refine xT.s1 hM rfl rfl ?_
              exact one _
            · refine xT.s1 hM rfl rfl ?_
              refine xT.s1 hM rfl rfl ?_
              exact one _
      refine xT.s1 hM rfl rfl ?_
      refine xT.br (fun b1 => ?_) (fun b1 => ?_)
      · rw [show (Int8.ofInt 45).toInt32 = 45 from by decide] at b1
        refine xT.s1 hM rfl rfl ?_
        refine xT.s1 hM rfl rfl ?_
        refine xT.s1 hM rfl rfl ?_
        refine xT.s1 hM rfl rfl ?_
        rw [show nI p + Int32.ofInt 1 = nI (p + 1) from nI_add p 1]
        refine xT.go hM rfl rfl rfl rfl rfl rfl (xc_virt rfl rfl rfl ht ⟨rfl, Nat.le_of_ble_eq_true rfl, rfl, Or.inl rfl⟩) rfl ⟨Nat.le_of_ble_eq_true rfl, Nat.le_of_ble_eq_true rfl, by decide⟩ (c_at hT (by omega)) (fun v h2 hv => ?_)
        obtain ⟨rfl, hh2⟩ := hv
        subst h2
        refine xT.s1 hM rfl rfl ?_
        refine xT.s1 hM rfl rfl ?_
        refine xT.br (fun b2 => ?_) (fun b2 => ?_)
        · rw [show (Int8.ofInt 45).toInt32 = 45 from by decide] at b2
          have hlt2 : p + 1 < len := x_byIn (fun z => by rw [z] at b2; exact absurd b2 (by decide))
          refine xT.s1 hM rfl rfl ?_
          refine xT.s1 hM rfl rfl ?_
          refine xT.br (fun b3 => ?_) (fun b3 => ?_)
          · refine xT.s1 hM rfl rfl ?_
            refine xT.s1 hM rfl rfl ?_
            refine xT.s1 hM rfl rfl ?_
            refine xT.s1 hM rfl rfl ?_
            rw [show nI p + Int32.ofInt 2 = nI (p + 2) from nI_add p 2]
            refine xT.s1 hM rfl rfl ?_
            refine xT.s1 hM rfl rfl ?_
            exact (xT.weak (L := [(3, .int (nI (p + 2))), (2, .int (Int32.ofInt 1)), (0, .ref qt), (1, .int cf)]) (L' := [(3, .int (nI (p + 2))), (2, .int (Int32.ofInt 1)), (4, .int (x_by gb len p)), (0, .ref qt), (1, .int cf)]) ⟨by simp, by simp⟩ (ih (p + 2) _ (by omega) (by omega))).mono (fun o h' ho => by
                obtain ⟨v, o1, ⟨p', o2, o3, o4⟩, o5⟩ := ho
                exact ⟨v, o1, ⟨p', o2, by omega, fun _ => o4 (by omega)⟩, o5⟩)
          · refine xT.s1 hM rfl rfl ?_
            refine xT.s1 hM rfl rfl ?_
            refine xT.s1 hM rfl rfl ?_
            rw [show nI p + Int32.ofInt 2 = nI (p + 2) from nI_add p 2]
            refine xT.s1 hM rfl rfl ?_
            refine xT.s1 hM rfl rfl ?_
            exact (xT.weak (L := [(3, .int (nI (p + 2))), (2, .int (Int32.ofInt 0)), (0, .ref qt), (1, .int cf)]) (L' := [(3, .int (nI (p + 2))), (2, .int (Int32.ofInt 0)), (4, .int (x_by gb len p)), (0, .ref qt), (1, .int cf)]) ⟨by simp, by simp⟩ (ih (p + 2) _ (by omega) (by omega))).mono (fun o h' ho => by
                obtain ⟨v, o1, ⟨p', o2, o3, o4⟩, o5⟩ := ho
                exact ⟨v, o1, ⟨p', o2, by omega, fun _ => o4 (by omega)⟩, o5⟩)
        · exact rest
      · exact rest
theorem c_blanks {p : Nat} (hT : c_T h qt qb ql th ta F gb gl len kp) (hp : p ≤ 4100) : xT e (d + 1) 133 0 [(0, .ref qt), (1, .int (nI p))] [] h (fun o h' => ∃ v, o = .inl v ∧ (∃ p', v = some (.int (nI p')) ∧ p ≤ p' ∧ (p ≤ len → p' ≤ len)) ∧ h' = h) := by
  have hM : (x_mt e.1)[133]? = some xM133 := rfl
  refine xT.s1 hM rfl rfl ?_
  refine xT.s1 hM rfl rfl ?_
  refine xT.s1 hM rfl rfl ?_
  refine xT.s1 hM rfl rfl ?_
  exact c_blLoop hT (len + 1) p _ (by omega) hp
theorem c_accept {qk : Nat} {Fk : List Value} {x y : Int32} (hk : h[qk]? = some (.inr (2, Fk))) (lk : Fk.length = 6) : xT e d 121 0 [(0, .ref qk), (1, .int x), (2, .int y)] [] h (fun o h' => ∃ v, o = .inl v ∧ v = none ∧ ∃ Fk', h'[qk]? = some (.inr (2, Fk')) ∧ Fk'.length = 6 ∧ Fk'[0]? = some (.int x) ∧ Fk'[2]? = some (.int y) ∧ (∀ i, i ≠ 0 → i ≠ 2 → Fk'[i]? = Fk[i]?) ∧ (∀ k, k ≠ qk → h'[k]? = h[k]?) ∧ h'.length = h.length ∧ ab_sz h' = ab_sz h) := by
  have hM : (x_mt e.1)[121]? = some xM121 := rfl
  refine xT.s1 hM rfl rfl ?_
  refine xT.s1 hM rfl rfl ?_
  refine xT.put hM rfl rfl hk (Or.inl rfl) (by rw [lk]; decide) (rfl) (Or.inl rfl) (fun h_1 F_1 eF1 eh1 up1 fb1 fo1 fl1 => ?_)
  replace hk := up1.1
  replace lk := fl1.trans lk
  have fk0 := fb1
  refine xT.s1 hM rfl rfl ?_
  refine xT.s1 hM rfl rfl ?_
  refine xT.put hM rfl rfl hk (Or.inl rfl) (by rw [lk]; decide) (rfl) (Or.inl rfl) (fun h_2 F_2 eF2 eh2 up2 fb2 fo2 fl2 => ?_)
  replace hk := up2.1
  replace lk := fl2.trans lk
  replace fk0 := (fo2 0 (by decide)).trans fk0
  have fk2 := fb2
  exact xT.ret hM rfl rfl rfl rfl (⟨_, rfl, rfl, _, hk, lk, fk0, fk2, fun i n0 n2 => (fo2 i n2).trans (fo1 i n0), fun k hk => (up2.2.1 k hk).trans (up1.2.1 k hk), up2.2.2.1.trans up1.2.2.1, up2.2.2.2.trans up1.2.2.2⟩)
end XCM
